/-! Contracts checked, 0. -/
def ckpt_8 : List ck_Pt := [(((2, [(0, .negSucc 2147483647, .ofNat 2147483647), (1, .negSucc 49, .ofNat 24)], [], [(0, (.ofNat 3, []), (.ofNat 18, [])), (0, (.ofNat 4, []), (.ofNat 28, []))], [(0, (.ofNat 0, []), (.ofNat 0, []))]), 3, [(0, (2, (.ofNat 0, []))), (1, (0, (.ofNat 0, [(0, .ofNat 1)]))), (2, (0, (.ofNat 0, [(1, .ofNat 1)])))], []), (.ofNat 10000000, [(1, .ofNat 1)]))]
def cktb_8 : List ck_Co := []
def ckce_8_0 : List Nat := [0, 2, 2, 0, 2, 0, 1, 0, 2, 48, 0]
def ckce_8_1 : List Nat := [0, 2, 4, 0, 1, 0, 1, 0, 2, 0, 4, 0, 2, 2, 0, 2, 0, 1, 0, 2, 15, 1, 1, 2, 0, 17, 2, 0, 2, 0, 1, 0, 2, 15, 1, 1, 2]
set_option maxRecDepth 1000000 in
theorem ckie_8 : ck_in0 cktb_8 ckcn_8 ckpt_8 4000 ckce_8_0 = true := by decide +kernel
set_option maxRecDepth 1000000 in
theorem ckip_8_0 : ∀ p, ckpt_8[0]? = some p → ck_inP cktb_8 ckcn_8 ckpt_8 4000 p ckce_8_1 = true := by
  intro p hp
  cases hp
  decide +kernel
theorem ckco_8 : ck_CO ckcn_8 := ck_con (tab := cktb_8) (pats := ckpt_8) (fun _ h => absurd h List.not_mem_nil) ckie_8 (List.forall_mem_cons.mpr ⟨⟨4000, ckce_8_1, ckip_8_0 _ rfl⟩, (fun _ h => absurd h List.not_mem_nil)⟩)
def ckpt_9 : List ck_Pt := []
def cktb_9 : List ck_Co := [ckcn_8]
def ckce_9_0 : List Nat := [0, 6, 0, 2, 3, 0, 1, 0, 1, 0, 2, 0, 2, 3, 0, 1, 0, 1, 1, 2, 0, 2, 3, 0, 1, 0, 1, 2, 2, 0, 2, 3, 0, 1, 0, 1, 3, 2, 0, 2, 3, 0, 1, 0, 1, 4, 2, 0, 2, 4, 0, 9, 0, 1, 0, 2, 0, 1, 1, 2, 0, 1, 2, 2, 0, 1, 3, 2, 0, 1, 4, 2, 0, 1, 5, 2, 0, 1, 6, 2, 0, 1, 7, 2, 0, 1, 9, 2, 0, 1, 4, 1, 9, 0, 1, 0, 2, 0, 1, 1, 2, 0, 1, 2, 2, 0, 1, 3, 2, 0, 1, 4, 2, 0, 1, 5, 2, 0, 1, 6, 2, 0, 1, 7, 2, 0, 1, 8, 2]
set_option maxRecDepth 1000000 in
theorem ckie_9 : ck_in0 cktb_9 ckcn_9 ckpt_9 4000 ckce_9_0 = true := by decide +kernel
theorem ckco_9 : ck_CO ckcn_9 := ck_con (tab := cktb_9) (pats := ckpt_9) (List.forall_mem_cons.mpr ⟨ckco_8, (fun _ h => absurd h List.not_mem_nil)⟩) ckie_9 (fun _ h => absurd h List.not_mem_nil)
def ckpt_10 : List ck_Pt := [(((2, [(0, .negSucc 2147483647, .ofNat 2147483647), (1, .negSucc 49, .ofNat 24)], [], [(0, (.ofNat 3, []), (.ofNat 28, [])), (0, (.ofNat 4, []), (.ofNat 18, []))], [(1, (.ofNat 0, []), (.ofNat 0, []))]), 3, [(0, (2, (.ofNat 0, []))), (1, (0, (.ofNat 0, [(0, .ofNat 1)]))), (2, (0, (.ofNat 0, [(1, .ofNat 1)])))], []), (.ofNat 10000000, [(1, .ofNat 1)]))]
def cktb_10 : List ck_Co := []
def ckce_10_0 : List Nat := [0, 2, 2, 0, 2, 0, 1, 0, 2, 48, 0]
def ckce_10_1 : List Nat := [0, 2, 4, 0, 1, 0, 1, 0, 2, 0, 4, 0, 2, 2, 0, 2, 0, 1, 0, 2, 15, 1, 1, 2, 0, 17, 2, 0, 2, 0, 1, 0, 2, 15, 1, 1, 2]
set_option maxRecDepth 1000000 in
theorem ckie_10 : ck_in0 cktb_10 ckcn_10 ckpt_10 4000 ckce_10_0 = true := by decide +kernel
set_option maxRecDepth 1000000 in
theorem ckip_10_0 : ∀ p, ckpt_10[0]? = some p → ck_inP cktb_10 ckcn_10 ckpt_10 4000 p ckce_10_1 = true := by
  intro p hp
  cases hp
  decide +kernel
theorem ckco_10 : ck_CO ckcn_10 := ck_con (tab := cktb_10) (pats := ckpt_10) (fun _ h => absurd h List.not_mem_nil) ckie_10 (List.forall_mem_cons.mpr ⟨⟨4000, ckce_10_1, ckip_10_0 _ rfl⟩, (fun _ h => absurd h List.not_mem_nil)⟩)
def ckpt_11 : List ck_Pt := []
def cktb_11 : List ck_Co := [ckcn_10]
def ckce_11_0 : List Nat := [0, 6, 0, 2, 3, 0, 1, 0, 1, 0, 2, 0, 2, 3, 0, 1, 0, 1, 1, 2, 0, 2, 3, 0, 1, 0, 1, 2, 2, 0, 2, 3, 0, 1, 0, 1, 3, 2, 0, 2, 3, 0, 1, 0, 1, 4, 2, 0, 2, 4, 0, 9, 0, 1, 0, 2, 0, 1, 1, 2, 0, 1, 2, 2, 0, 1, 3, 2, 0, 1, 4, 2, 0, 1, 5, 2, 0, 1, 6, 2, 0, 1, 7, 2, 0, 1, 9, 2, 0, 1, 4, 1, 9, 0, 1, 0, 2, 0, 1, 1, 2, 0, 1, 2, 2, 0, 1, 3, 2, 0, 1, 4, 2, 0, 1, 5, 2, 0, 1, 6, 2, 0, 1, 7, 2, 0, 1, 8, 2]
set_option maxRecDepth 1000000 in
theorem ckie_11 : ck_in0 cktb_11 ckcn_11 ckpt_11 4000 ckce_11_0 = true := by decide +kernel
theorem ckco_11 : ck_CO ckcn_11 := ck_con (tab := cktb_11) (pats := ckpt_11) (List.forall_mem_cons.mpr ⟨ckco_10, (fun _ h => absurd h List.not_mem_nil)⟩) ckie_11 (fun _ h => absurd h List.not_mem_nil)
def ckpt_12 : List ck_Pt := []
def cktb_12 : List ck_Co := []
def ckce_12_0 : List Nat := [0, 2, 0, 1, 4, 0, 4, 0, 1, 0, 2, 0, 1, 1, 2, 0, 1, 2, 2, 0, 1, 3, 2, 0, 4, 0, 4, 4, 1, 5, 0, 1, 0, 2, 0, 1, 1, 2, 0, 1, 2, 2, 0, 1, 3, 2, 0, 1, 0, 2, 0, 1, 4, 0, 4, 0, 1, 0, 2, 0, 1, 1, 2, 0, 1, 2, 2, 0, 1, 3, 2]
set_option maxRecDepth 1000000 in
theorem ckie_12 : ck_in0 cktb_12 ckcn_12 ckpt_12 4000 ckce_12_0 = true := by decide +kernel
theorem ckco_12 : ck_CO ckcn_12 := ck_con (tab := cktb_12) (pats := ckpt_12) (fun _ h => absurd h List.not_mem_nil) ckie_12 (fun _ h => absurd h List.not_mem_nil)
def ckpt_13 : List ck_Pt := []
def cktb_13 : List ck_Co := []
def ckce_13_0 : List Nat := [0, 2, 0, 1, 4, 0, 4, 0, 1, 0, 2, 0, 1, 1, 2, 0, 1, 2, 2, 0, 1, 3, 2, 0, 4, 0, 4, 4, 1, 5, 0, 1, 0, 2, 0, 1, 1, 2, 0, 1, 2, 2, 0, 1, 3, 2, 0, 1, 0, 2, 0, 1, 4, 0, 4, 0, 1, 0, 2, 0, 1, 1, 2, 0, 1, 2, 2, 0, 1, 3, 2]
set_option maxRecDepth 1000000 in
theorem ckie_13 : ck_in0 cktb_13 ckcn_13 ckpt_13 4000 ckce_13_0 = true := by decide +kernel
theorem ckco_13 : ck_CO ckcn_13 := ck_con (tab := cktb_13) (pats := ckpt_13) (fun _ h => absurd h List.not_mem_nil) ckie_13 (fun _ h => absurd h List.not_mem_nil)
def ckpt_14 : List ck_Pt := [(((1, [(0, .ofNat 0, .ofNat 192)], [], [], []), 5, [(0, (2, (.ofNat 32, []))), (1, (0, (.ofNat 0, []))), (2, (0, (.ofNat 0, [(0, .ofNat 1)]))), (3, (0, (.ofNat 192, [])))], []), (.ofNat 10000000, [(0, .negSucc 0)]))]
def cktb_14 : List ck_Co := []
def ckce_14_0 : List Nat := [0, 5, 2, 0, 1, 0, 0]
def ckce_14_1 : List Nat := [0, 3, 4, 0, 0, 0, 6, 2, 0, 1, 2, 1, 0, 2]
set_option maxRecDepth 1000000 in
theorem ckie_14 : ck_in0 cktb_14 ckcn_14 ckpt_14 4000 ckce_14_0 = true := by decide +kernel
set_option maxRecDepth 1000000 in
theorem ckip_14_0 : ∀ p, ckpt_14[0]? = some p → ck_inP cktb_14 ckcn_14 ckpt_14 4000 p ckce_14_1 = true := by
  intro p hp
  cases hp
  decide +kernel
theorem ckco_14 : ck_CO ckcn_14 := ck_con (tab := cktb_14) (pats := ckpt_14) (fun _ h => absurd h List.not_mem_nil) ckie_14 (List.forall_mem_cons.mpr ⟨⟨4000, ckce_14_1, ckip_14_0 _ rfl⟩, (fun _ h => absurd h List.not_mem_nil)⟩)
def ckpt_15 : List ck_Pt := [(((1, [(0, .ofNat 0, .ofNat 64)], [], [(28, (.ofNat 3, []), (.ofNat 0, [])), (28, (.ofNat 0, []), (.ofNat 0, []))], []), 20, [(0, (2, (.ofNat 28, []))), (1, (0, (.ofNat 0, [(0, .ofNat 1)])))], []), (.ofNat 10000000, [(0, .negSucc 0)]))]
def cktb_15 : List ck_Co := [ckcn_14]
def ckce_15_0 : List Nat := [0, 9, 3, 0, 0, 0, 2, 2, 0, 1, 0, 0]
def ckce_15_1 : List Nat := [0, 5, 0, 20, 4, 0, 0, 0, 7, 2, 0, 1, 2, 1, 0, 2]
set_option maxRecDepth 1000000 in
theorem ckie_15 : ck_in0 cktb_15 ckcn_15 ckpt_15 4000 ckce_15_0 = true := by decide +kernel
set_option maxRecDepth 1000000 in
theorem ckip_15_0 : ∀ p, ckpt_15[0]? = some p → ck_inP cktb_15 ckcn_15 ckpt_15 4000 p ckce_15_1 = true := by
  intro p hp
  cases hp
  decide +kernel
theorem ckco_15 : ck_CO ckcn_15 := ck_con (tab := cktb_15) (pats := ckpt_15) (List.forall_mem_cons.mpr ⟨ckco_14, (fun _ h => absurd h List.not_mem_nil)⟩) ckie_15 (List.forall_mem_cons.mpr ⟨⟨4000, ckce_15_1, ckip_15_0 _ rfl⟩, (fun _ h => absurd h List.not_mem_nil)⟩)
def ckpt_16 : List ck_Pt := [(((5, [(0, .ofNat 0, .ofNat 1600), (1, .ofNat 0, .ofNat 1600), (2, .ofNat 0, .ofNat 1600), (3, .negSucc 2147483647, .ofNat 2147483647), (4, .ofNat 0, .ofNat 1600)], [], [(3, (.ofNat 7, []), (.ofNat 0, [(3, .ofNat 1)])), (3, (.ofNat 4, []), (.ofNat 0, [(2, .ofNat 1)])), (3, (.ofNat 2, []), (.ofNat 0, [(1, .ofNat 1)])), (3, (.ofNat 3, []), (.ofNat 0, [(4, .ofNat 1)])), (3, (.ofNat 1, []), (.ofNat 1, []))], []), 5, [(0, (2, (.ofNat 3, [])))], []), (.ofNat 10000000, [(4, .negSucc 0)]))]
def cktb_16 : List ck_Co := []
def ckce_16_0 : List Nat := [0, 3, 2, 0, 5, 0, 1, 0, 2, 0, 1, 1, 2, 0, 1, 2, 2, 0, 0, 0, 1, 0, 2]
def ckce_16_1 : List Nat := [0, 5, 0, 17, 0, 2, 4, 0, 4, 0, 1, 0, 2, 0, 1, 1, 2, 0, 1, 2, 2, 8, 0, 0, 3, 4, 0, 4, 0, 1, 0, 2, 0, 1, 1, 2, 0, 1, 2, 2, 2, 0, 0, 7, 0, 24, 0, 2, 4, 0, 4, 0, 1, 0, 2, 0, 1, 1, 2, 0, 1, 2, 2, 8, 0, 0, 3, 4, 0, 4, 0, 1, 0, 2, 0, 1, 1, 2, 0, 1, 2, 2, 2, 0, 0, 7, 0, 12, 0, 12, 0, 2, 4, 0, 4, 0, 1, 0, 2, 0, 1, 1, 2, 0, 1, 2, 2, 8, 0, 0, 3, 4, 0, 4, 0, 1, 0, 2, 0, 1, 1, 2, 0, 1, 2, 2, 2, 0, 0, 7, 0, 12, 0, 2, 4, 0, 4, 0, 1, 0, 2, 0, 1, 1, 2, 0, 1, 2, 2, 8, 0, 0, 3, 4, 0, 4, 0, 1, 0, 2, 0, 1, 1, 2, 0, 1, 2, 2, 2, 0, 0, 9, 4, 0, 4, 0, 1, 0, 2, 0, 1, 1, 2, 0, 1, 2, 2, 2, 0, 0, 21, 2, 0, 5, 0, 1, 0, 2, 0, 1, 1, 2, 0, 1, 2, 2, 0, 1, 8, 2, 2, 1, 4, 2]
set_option maxRecDepth 1000000 in
theorem ckie_16 : ck_in0 cktb_16 ckcn_16 ckpt_16 4000 ckce_16_0 = true := by decide +kernel
set_option maxRecDepth 1000000 in
theorem ckip_16_0 : ∀ p, ckpt_16[0]? = some p → ck_inP cktb_16 ckcn_16 ckpt_16 4000 p ckce_16_1 = true := by
  intro p hp
  cases hp
  decide +kernel
theorem ckco_16 : ck_CO ckcn_16 := ck_con (tab := cktb_16) (pats := ckpt_16) (fun _ h => absurd h List.not_mem_nil) ckie_16 (List.forall_mem_cons.mpr ⟨⟨4000, ckce_16_1, ckip_16_0 _ rfl⟩, (fun _ h => absurd h List.not_mem_nil)⟩)
def ckpt_17 : List ck_Pt := [(((5, [(0, .ofNat 0, .ofNat 1600), (1, .ofNat 0, .ofNat 1600), (2, .ofNat 0, .ofNat 1600), (3, .negSucc 9223372036854775807, .ofNat 9223372036854775807), (4, .ofNat 0, .ofNat 1600)], [], [(3, (.ofNat 6, []), (.ofNat 0, [(3, .ofNat 1)])), (3, (.ofNat 4, []), (.ofNat 0, [(2, .ofNat 1)])), (3, (.ofNat 2, []), (.ofNat 0, [(1, .ofNat 1)])), (3, (.ofNat 3, []), (.ofNat 0, [(4, .ofNat 1)])), (3, (.ofNat 1, []), (.ofNat 1, []))], []), 5, [(0, (2, (.ofNat 3, [])))], []), (.ofNat 20000000, [(4, .negSucc 0)])), (((7, [(0, .ofNat 0, .ofNat 1600), (1, .ofNat 0, .ofNat 1600), (2, .ofNat 0, .ofNat 1600), (3, .negSucc 9223372036854775807, .ofNat 9223372036854775807), (4, .ofNat 0, .ofNat 1600), (5, .ofNat 0, .ofNat 6), (6, .ofNat 5, .ofNat 11)], [], [(3, (.ofNat 5, []), (.ofNat 0, [(6, .ofNat 1)])), (3, (.ofNat 6, []), (.ofNat 0, [(3, .ofNat 1)])), (3, (.ofNat 4, []), (.ofNat 0, [(2, .ofNat 1)])), (3, (.ofNat 2, []), (.ofNat 0, [(1, .ofNat 1)])), (3, (.ofNat 3, []), (.ofNat 0, [(4, .ofNat 1)])), (3, (.ofNat 1, []), (.ofNat 1, []))], []), 88, [(0, (2, (.ofNat 3, []))), (1, (0, (.ofNat 0, [(5, .ofNat 1)])))], []), (.ofNat 10000000, [(5, .negSucc 0)]))]
def cktb_17 : List ck_Co := []
def ckce_17_0 : List Nat := [0, 3, 2, 0, 5, 0, 1, 0, 2, 0, 1, 1, 2, 0, 1, 2, 2, 0, 0, 0, 1, 0, 2]
def ckce_17_1 : List Nat := [0, 5, 0, 5, 2, 1, 7, 0, 1, 0, 2, 0, 1, 1, 2, 0, 1, 2, 2, 0, 1, 3, 2, 0, 1, 4, 2, 0, 0, 10, 0, 0, 7, 0, 5, 2, 1, 7, 0, 1, 0, 2, 0, 1, 1, 2, 0, 1, 2, 2, 0, 1, 3, 2, 0, 1, 4, 2, 0, 0, 10, 0, 0, 7, 0, 5, 2, 1, 7, 0, 1, 0, 2, 0, 1, 1, 2, 0, 1, 2, 2, 0, 1, 3, 2, 0, 1, 4, 2, 0, 0, 10, 0, 0, 22, 2, 0, 5, 0, 1, 0, 2, 0, 1, 1, 2, 0, 1, 2, 2, 0, 1, 7, 2, 2, 1, 4, 2]
def ckce_17_2 : List Nat := [0, 5, 0, 7, 4, 0, 4, 0, 1, 0, 2, 0, 1, 1, 2, 0, 1, 2, 2, 0, 1, 6, 2, 0, 3, 4, 0, 4, 0, 1, 0, 2, 0, 1, 1, 2, 0, 1, 2, 2, 2, 0, 0, 7, 0, 3, 2, 1, 7, 0, 1, 0, 2, 0, 1, 1, 2, 0, 1, 2, 2, 0, 1, 3, 2, 0, 1, 4, 2, 2, 1, 5, 2, 0, 1, 6, 2, 0, 8, 2, 1, 7, 0, 1, 0, 2, 0, 1, 1, 2, 0, 1, 2, 2, 0, 1, 3, 2, 0, 1, 4, 2, 2, 1, 5, 2, 12, 1, 5, 2, 0, 3, 2, 1, 7, 0, 1, 0, 2, 0, 1, 1, 2, 0, 1, 2, 2, 0, 1, 3, 2, 0, 1, 4, 2, 2, 1, 5, 2, 0, 1, 6, 2]
set_option maxRecDepth 1000000 in
theorem ckie_17 : ck_in0 cktb_17 ckcn_17 ckpt_17 4000 ckce_17_0 = true := by decide +kernel
set_option maxRecDepth 1000000 in
theorem ckip_17_0 : ∀ p, ckpt_17[0]? = some p → ck_inP cktb_17 ckcn_17 ckpt_17 4000 p ckce_17_1 = true := by
  intro p hp
  cases hp
  decide +kernel
set_option maxRecDepth 1000000 in
theorem ckip_17_1 : ∀ p, ckpt_17[1]? = some p → ck_inP cktb_17 ckcn_17 ckpt_17 4000 p ckce_17_2 = true := by
  intro p hp
  cases hp
  decide +kernel
theorem ckco_17 : ck_CO ckcn_17 := ck_con (tab := cktb_17) (pats := ckpt_17) (fun _ h => absurd h List.not_mem_nil) ckie_17 (List.forall_mem_cons.mpr ⟨⟨4000, ckce_17_1, ckip_17_0 _ rfl⟩, (List.forall_mem_cons.mpr ⟨⟨4000, ckce_17_2, ckip_17_1 _ rfl⟩, (fun _ h => absurd h List.not_mem_nil)⟩)⟩)
def ckpt_18 : List ck_Pt := [(((3, [(0, .ofNat 0, .ofNat 1600), (1, .ofNat 0, .ofNat 1600), (2, .ofNat 0, .ofNat 1600)], [], [(3, (.ofNat 4, []), (.ofNat 0, [(2, .ofNat 1)])), (3, (.ofNat 2, []), (.ofNat 0, [(1, .ofNat 1)])), (3, (.ofNat 3, []), (.ofNat 0, [(0, .ofNat 1)])), (3, (.ofNat 1, []), (.ofNat 1, []))], []), 8, [(0, (2, (.ofNat 3, [])))], []), (.ofNat 10000000, [(2, .negSucc 0)]))]
def cktb_18 : List ck_Co := [ckcn_16, ckcn_17]
def ckce_18_0 : List Nat := [0, 4, 2, 0, 3, 0, 1, 0, 2, 0, 1, 1, 2, 0, 1, 0, 2]
def ckce_18_1 : List Nat := [0, 5, 0, 24, 4, 0, 2, 0, 1, 0, 2, 0, 1, 1, 2, 0, 7, 0, 7, 2, 0, 3, 0, 1, 0, 2, 0, 1, 1, 2, 2, 1, 2, 2, 0, 7, 0, 24, 0, 3, 0, 25, 0, 3, 4, 0, 2, 0, 1, 0, 2, 0, 1, 1, 2, 0, 10, 4, 0, 2, 0, 1, 0, 2, 0, 1, 1, 2, 0, 3, 0, 4, 0, 3, 0, 18, 0, 3, 4, 0, 2, 0, 1, 0, 2, 0, 1, 1, 2, 0, 10, 4, 0, 2, 0, 1, 0, 2, 0, 1, 1, 2, 0, 13, 4, 0, 2, 0, 1, 0, 2, 0, 1, 1, 2, 0, 13, 4, 0, 2, 0, 1, 0, 2, 0, 1, 1, 2, 0, 1, 3, 0, 3, 0, 1, 2, 2, 0, 1, 1, 2, 0, 1, 2, 2, 0, 5, 4, 0, 2, 0, 1, 0, 2, 0, 1, 1, 2, 0, 6, 0, 3, 4, 0, 2, 0, 1, 0, 2, 0, 1, 1, 2, 0, 10, 4, 0, 2, 0, 1, 0, 2, 0, 1, 1, 2, 0, 3, 0, 31, 0, 3, 4, 0, 2, 0, 1, 0, 2, 0, 1, 1, 2, 0, 10, 4, 0, 2, 0, 1, 0, 2, 0, 1, 1, 2, 0, 1, 3, 1, 3, 0, 1, 2, 2, 0, 1, 1, 2, 0, 1, 2, 2, 0, 5, 4, 0, 2, 0, 1, 0, 2, 0, 1, 1, 2, 0, 6, 0, 3, 4, 0, 2, 0, 1, 0, 2, 0, 1, 1, 2, 0, 10, 4, 0, 2, 0, 1, 0, 2, 0, 1, 1, 2, 0, 7, 2, 0, 3, 0, 1, 0, 2, 0, 1, 1, 2, 2, 1, 2, 2]
set_option maxRecDepth 1000000 in
theorem ckie_18 : ck_in0 cktb_18 ckcn_18 ckpt_18 4000 ckce_18_0 = true := by decide +kernel
set_option maxRecDepth 1000000 in
theorem ckip_18_0 : ∀ p, ckpt_18[0]? = some p → ck_inP cktb_18 ckcn_18 ckpt_18 4000 p ckce_18_1 = true := by
  intro p hp
  cases hp
  decide +kernel
theorem ckco_18 : ck_CO ckcn_18 := ck_con (tab := cktb_18) (pats := ckpt_18) (List.forall_mem_cons.mpr ⟨ckco_16, (List.forall_mem_cons.mpr ⟨ckco_17, (fun _ h => absurd h List.not_mem_nil)⟩)⟩) ckie_18 (List.forall_mem_cons.mpr ⟨⟨4000, ckce_18_1, ckip_18_0 _ rfl⟩, (fun _ h => absurd h List.not_mem_nil)⟩)
def ckpt_19 : List ck_Pt := [(((2, [(0, .negSucc 9223372036854775807, .ofNat 9223372036854775807), (1, .ofNat 0, .ofNat 8)], [], [], []), 2, [(0, (2, (.ofNat 28, []))), (1, (1, (.ofNat 0, [(0, .ofNat 1)]))), (3, (0, (.ofNat 0, [(1, .ofNat 1)])))], []), (.ofNat 20000000, [(1, .negSucc 0)])), (((3, [(0, .negSucc 9223372036854775807, .ofNat 9223372036854775807), (1, .ofNat 0, .ofNat 8), (2, .ofNat 0, .ofNat 8)], [], [(28, (.ofNat 0, []), (.ofNat 0, [(1, .ofNat 1)]))], []), 31, [(0, (2, (.ofNat 28, []))), (1, (1, (.ofNat 0, [(0, .ofNat 1)]))), (3, (0, (.ofNat 0, [(2, .ofNat 1)])))], []), (.ofNat 10000000, [(2, .negSucc 0)]))]
def cktb_19 : List ck_Co := []
def ckce_19_0 : List Nat := [0, 2, 2, 0, 2, 0, 1, 0, 2, 0, 0]
def ckce_19_1 : List Nat := [0, 4, 0, 2, 2, 1, 3, 0, 1, 0, 2, 0, 1, 2, 2, 0, 0, 0, 6, 0, 3, 2, 0, 2, 0, 1, 0, 2, 2, 1, 1, 2, 0, 2, 4, 0, 2, 0, 1, 0, 2, 0, 1, 1, 2, 0, 3, 2, 0, 2, 0, 1, 0, 2, 2, 1, 1, 2]
def ckce_19_2 : List Nat := [0, 4, 0, 1, 4, 1, 1, 0, 1, 0, 2, 0, 6, 0, 3, 2, 1, 3, 0, 1, 0, 2, 0, 1, 1, 2, 2, 1, 2, 2, 0, 4, 4, 0, 2, 0, 1, 0, 2, 16, 1, 2, 2, 0, 3, 2, 1, 3, 0, 1, 0, 2, 0, 1, 1, 2, 2, 1, 2, 2]
set_option maxRecDepth 1000000 in
theorem ckie_19 : ck_in0 cktb_19 ckcn_19 ckpt_19 4000 ckce_19_0 = true := by decide +kernel
set_option maxRecDepth 1000000 in
theorem ckip_19_0 : ∀ p, ckpt_19[0]? = some p → ck_inP cktb_19 ckcn_19 ckpt_19 4000 p ckce_19_1 = true := by
  intro p hp
  cases hp
  decide +kernel
set_option maxRecDepth 1000000 in
theorem ckip_19_1 : ∀ p, ckpt_19[1]? = some p → ck_inP cktb_19 ckcn_19 ckpt_19 4000 p ckce_19_2 = true := by
  intro p hp
  cases hp
  decide +kernel
theorem ckco_19 : ck_CO ckcn_19 := ck_con (tab := cktb_19) (pats := ckpt_19) (fun _ h => absurd h List.not_mem_nil) ckie_19 (List.forall_mem_cons.mpr ⟨⟨4000, ckce_19_1, ckip_19_0 _ rfl⟩, (List.forall_mem_cons.mpr ⟨⟨4000, ckce_19_2, ckip_19_1 _ rfl⟩, (fun _ h => absurd h List.not_mem_nil)⟩)⟩)
def ckpt_20 : List ck_Pt := [(((3, [(0, .ofNat 0, .ofNat 7), (1, .ofNat 0, .ofNat 23), (2, .ofNat 0, .ofNat 4)], [], [(2, (.ofNat 1, []), (.ofNat 28, [])), (3, (.ofNat 1, []), (.ofNat 1, []))], []), 2, [(0, (2, (.ofNat 2, []))), (1, (0, (.ofNat 0, [(0, .ofNat 1)]))), (2, (0, (.ofNat 0, [(1, .ofNat 1)]))), (3, (0, (.ofNat 0, [(2, .ofNat 1)])))], []), (.ofNat 10000000, [(2, .negSucc 0)]))]
def cktb_20 : List ck_Co := [ckcn_19]
def ckce_20_0 : List Nat := [0, 2, 2, 0, 3, 0, 1, 0, 2, 0, 1, 1, 2, 0, 0]
def ckce_20_1 : List Nat := [0, 7, 0, 1, 4, 0, 2, 0, 1, 0, 2, 0, 1, 1, 2, 0, 12, 3, 0, 1, 0, 1, 4, 2, 0, 18, 0, 12, 2, 0, 3, 0, 1, 0, 2, 0, 1, 1, 2, 2, 1, 2, 2, 0, 8, 0, 8, 2, 0, 3, 0, 1, 0, 2, 0, 1, 1, 2, 2, 1, 2, 2, 0, 5, 0, 8, 2, 0, 3, 0, 1, 0, 2, 0, 1, 1, 2, 2, 1, 2, 2, 0, 7, 0, 2, 4, 1, 3, 0, 1, 0, 2, 0, 1, 1, 2, 0, 1, 7, 2, 0, 9, 4, 1, 3, 0, 1, 0, 2, 0, 1, 1, 2, 14, 0, 0, 18, 0, 2, 4, 1, 3, 0, 1, 0, 2, 0, 1, 1, 2, 0, 1, 6, 2, 0, 9, 4, 1, 3, 0, 1, 0, 2, 0, 1, 1, 2, 12, 0]
set_option maxRecDepth 1000000 in
theorem ckie_20 : ck_in0 cktb_20 ckcn_20 ckpt_20 4000 ckce_20_0 = true := by decide +kernel
set_option maxRecDepth 1000000 in
theorem ckip_20_0 : ∀ p, ckpt_20[0]? = some p → ck_inP cktb_20 ckcn_20 ckpt_20 4000 p ckce_20_1 = true := by
  intro p hp
  cases hp
  decide +kernel
theorem ckco_20 : ck_CO ckcn_20 := ck_con (tab := cktb_20) (pats := ckpt_20) (List.forall_mem_cons.mpr ⟨ckco_19, (fun _ h => absurd h List.not_mem_nil)⟩) ckie_20 (List.forall_mem_cons.mpr ⟨⟨4000, ckce_20_1, ckip_20_0 _ rfl⟩, (fun _ h => absurd h List.not_mem_nil)⟩)
def ckpt_21 : List ck_Pt := [(((1, [(0, .ofNat 0, .ofNat 8)], [], [(2, (.ofNat 1, []), (.ofNat 28, [])), (3, (.ofNat 1, []), (.ofNat 1, []))], []), 2, [(0, (2, (.ofNat 2, []))), (1, (0, (.ofNat 0, [(0, .ofNat 1)])))], []), (.ofNat 10000000001000000000, [(0, .negSucc 999999999999)])), (((4, [(0, .ofNat 1, .ofNat 8), (1, .ofNat 0, .ofNat 24), (2, .ofNat 0, .ofNat 7), (3, .ofNat 0, .ofNat 24)], [], [(34, (.ofNat 0, []), (.ofNat 0, [(3, .ofNat 1)])), (28, (.ofNat 6, []), (.ofNat 0, [(0, .ofNat 1)])), (2, (.ofNat 1, []), (.ofNat 28, [])), (3, (.ofNat 1, []), (.ofNat 1, []))], []), 23, [(0, (2, (.ofNat 2, []))), (1, (0, (.ofNat 0, [(2, .ofNat 1)]))), (2, (0, (.ofNat 0, [(1, .ofNat 1)])))], []), (.ofNat 10000000000010000000, [(1, .negSucc 0), (2, .negSucc 999999999999)]))]
def cktb_21 : List ck_Co := [ckcn_20]
def ckce_21_0 : List Nat := [0, 2, 2, 0, 1, 0, 0]
def ckce_21_1 : List Nat := [0, 5, 0, 1, 4, 0, 0, 0, 6, 1, 1, 34, 0, 0, 2, 1, 4, 0, 1, 1, 2, 0, 1, 2, 2, 0, 1, 0, 2, 0, 1, 3, 2]
def ckce_21_2 : List Nat := [0, 9, 0, 2, 2, 0, 1, 2, 1, 2, 2, 0, 3, 3, 0, 2, 0, 1, 2, 2, 0, 1, 1, 2, 0, 3, 2, 1, 4, 0, 1, 0, 2, 2, 1, 1, 2, 0, 1, 2, 2, 0, 1, 3, 2, 0, 2, 4, 1, 2, 0, 1, 0, 2, 0, 1, 5, 2]
set_option maxRecDepth 1000000 in
theorem ckie_21 : ck_in0 cktb_21 ckcn_21 ckpt_21 4000 ckce_21_0 = true := by decide +kernel
set_option maxRecDepth 1000000 in
theorem ckip_21_0 : ∀ p, ckpt_21[0]? = some p → ck_inP cktb_21 ckcn_21 ckpt_21 4000 p ckce_21_1 = true := by
  intro p hp
  cases hp
  decide +kernel
set_option maxRecDepth 1000000 in
theorem ckip_21_1 : ∀ p, ckpt_21[1]? = some p → ck_inP cktb_21 ckcn_21 ckpt_21 4000 p ckce_21_2 = true := by
  intro p hp
  cases hp
  decide +kernel
theorem ckco_21 : ck_CO ckcn_21 := ck_con (tab := cktb_21) (pats := ckpt_21) (List.forall_mem_cons.mpr ⟨ckco_20, (fun _ h => absurd h List.not_mem_nil)⟩) ckie_21 (List.forall_mem_cons.mpr ⟨⟨4000, ckce_21_1, ckip_21_0 _ rfl⟩, (List.forall_mem_cons.mpr ⟨⟨4000, ckce_21_2, ckip_21_1 _ rfl⟩, (fun _ h => absurd h List.not_mem_nil)⟩)⟩)
def ckpt_22 : List ck_Pt := [(((2, [(0, .ofNat 0, .ofNat 21), (1, .ofNat 0, .ofNat 3)], [], [(2, (.ofNat 1, []), (.ofNat 28, [])), (3, (.ofNat 1, []), (.ofNat 1, []))], []), 2, [(0, (2, (.ofNat 2, []))), (1, (2, (.ofNat 30, []))), (2, (0, (.ofNat 0, [(0, .ofNat 1)]))), (3, (0, (.ofNat 0, [(1, .ofNat 1)])))], []), (.ofNat 10000000, [(1, .negSucc 0)]))]
def cktb_22 : List ck_Co := [ckcn_18]
def ckce_22_0 : List Nat := [0, 2, 2, 0, 2, 0, 1, 0, 2, 0, 0]
def ckce_22_1 : List Nat := [0, 3, 0, 1, 4, 0, 1, 0, 1, 0, 2, 0, 13, 0, 5, 0, 7, 0, 5, 4, 1, 2, 0, 1, 0, 2, 0, 1, 4, 2, 0, 12, 4, 1, 2, 0, 1, 0, 2, 8, 0, 0, 5, 0, 2, 1, 1, 3, 4, 0, 1, 1, 3, 6, 0, 3, 0, 2, 0, 1, 5, 2, 0, 1, 4, 2, 0, 4, 0, 4, 4, 1, 2, 0, 1, 0, 2, 0, 1, 6, 2, 0, 14, 2, 0, 2, 0, 1, 0, 2, 2, 1, 1, 2, 0, 7, 0, 5, 4, 1, 2, 0, 1, 0, 2, 0, 1, 4, 2, 0, 12, 4, 1, 2, 0, 1, 0, 2, 8, 0, 0, 7, 0, 5, 4, 1, 2, 0, 1, 0, 2, 0, 1, 4, 2, 0, 12, 4, 1, 2, 0, 1, 0, 2, 4, 0]
set_option maxRecDepth 1000000 in
theorem ckie_22 : ck_in0 cktb_22 ckcn_22 ckpt_22 4000 ckce_22_0 = true := by decide +kernel
set_option maxRecDepth 1000000 in
theorem ckip_22_0 : ∀ p, ckpt_22[0]? = some p → ck_inP cktb_22 ckcn_22 ckpt_22 4000 p ckce_22_1 = true := by
  intro p hp
  cases hp
  decide +kernel
theorem ckco_22 : ck_CO ckcn_22 := ck_con (tab := cktb_22) (pats := ckpt_22) (List.forall_mem_cons.mpr ⟨ckco_18, (fun _ h => absurd h List.not_mem_nil)⟩) ckie_22 (List.forall_mem_cons.mpr ⟨⟨4000, ckce_22_1, ckip_22_0 _ rfl⟩, (fun _ h => absurd h List.not_mem_nil)⟩)
def ckpt_23 : List ck_Pt := []
def cktb_23 : List ck_Co := [ckcn_18, ckcn_22, ckcn_19]
def ckce_23_0 : List Nat := [0, 6, 0, 11, 0, 5, 4, 0, 1, 0, 1, 1, 2, 0, 12, 4, 0, 1, 4, 0, 0, 17, 1, 1, 3, 4, 0, 1, 1, 3, 6, 0, 3, 0, 2, 0, 1, 3, 2, 0, 1, 2, 2, 0, 4, 0, 6, 4, 0, 1, 0, 1, 4, 2, 0, 17, 0, 8, 0, 2, 1, 1, 3, 6, 0, 3, 0, 2, 0, 1, 7, 2, 0, 1, 2, 2, 0, 4, 0, 5, 4, 0, 1, 0, 1, 8, 2, 0, 14, 3, 1, 1, 0, 1, 0, 6, 0, 17, 4, 1, 1, 2, 1, 0, 2, 0, 2, 4, 0, 1, 0, 1, 9, 2, 0, 20, 4, 0, 1, 4, 0, 0, 5, 3, 2, 1, 0, 1, 5, 2, 0, 21, 4, 0, 1, 6, 0, 0, 12, 1, 1, 3, 6, 0, 3, 0, 2, 0, 1, 7, 2, 0, 1, 2, 2, 0, 4, 0, 5, 4, 0, 1, 0, 1, 8, 2, 0, 14, 3, 1, 1, 0, 1, 0, 6, 0, 17, 4, 1, 1, 2, 1, 0, 2, 0, 2, 4, 0, 1, 0, 1, 9, 2]
set_option maxRecDepth 1000000 in
theorem ckie_23 : ck_in0 cktb_23 ckcn_23 ckpt_23 4000 ckce_23_0 = true := by decide +kernel
theorem ckco_23 : ck_CO ckcn_23 := ck_con (tab := cktb_23) (pats := ckpt_23) (List.forall_mem_cons.mpr ⟨ckco_18, (List.forall_mem_cons.mpr ⟨ckco_22, (List.forall_mem_cons.mpr ⟨ckco_19, (fun _ h => absurd h List.not_mem_nil)⟩)⟩)⟩) ckie_23 (fun _ h => absurd h List.not_mem_nil)
def ckpt_24 : List ck_Pt := [(((2, [(0, .ofNat 0, .ofNat 189), (1, .ofNat 0, .ofNat 3)], [], [(2, (.ofNat 1, []), (.ofNat 28, [])), (3, (.ofNat 1, []), (.ofNat 1, []))], []), 2, [(0, (2, (.ofNat 2, []))), (1, (2, (.ofNat 32, []))), (2, (0, (.ofNat 0, [(0, .ofNat 1)]))), (3, (0, (.ofNat 0, [(1, .ofNat 1)])))], []), (.ofNat 10000000, [(1, .negSucc 0)]))]
def cktb_24 : List ck_Co := [ckcn_18]
def ckce_24_0 : List Nat := [0, 2, 2, 0, 2, 0, 1, 0, 2, 0, 0]
def ckce_24_1 : List Nat := [0, 3, 0, 1, 4, 0, 1, 0, 1, 0, 2, 0, 13, 0, 5, 0, 7, 0, 5, 4, 1, 2, 0, 1, 0, 2, 0, 1, 4, 2, 0, 12, 4, 1, 2, 0, 1, 0, 2, 8, 0, 0, 5, 0, 2, 1, 1, 3, 4, 0, 1, 1, 3, 6, 0, 3, 0, 2, 0, 1, 5, 2, 0, 1, 4, 2, 0, 4, 0, 4, 4, 1, 2, 0, 1, 0, 2, 0, 1, 6, 2, 0, 14, 2, 0, 2, 0, 1, 0, 2, 2, 1, 1, 2, 0, 7, 0, 5, 4, 1, 2, 0, 1, 0, 2, 0, 1, 4, 2, 0, 12, 4, 1, 2, 0, 1, 0, 2, 8, 0, 0, 7, 0, 5, 4, 1, 2, 0, 1, 0, 2, 0, 1, 4, 2, 0, 12, 4, 1, 2, 0, 1, 0, 2, 4, 0]
set_option maxRecDepth 1000000 in
theorem ckie_24 : ck_in0 cktb_24 ckcn_24 ckpt_24 4000 ckce_24_0 = true := by decide +kernel
set_option maxRecDepth 1000000 in
theorem ckip_24_0 : ∀ p, ckpt_24[0]? = some p → ck_inP cktb_24 ckcn_24 ckpt_24 4000 p ckce_24_1 = true := by
  intro p hp
  cases hp
  decide +kernel
theorem ckco_24 : ck_CO ckcn_24 := ck_con (tab := cktb_24) (pats := ckpt_24) (List.forall_mem_cons.mpr ⟨ckco_18, (fun _ h => absurd h List.not_mem_nil)⟩) ckie_24 (List.forall_mem_cons.mpr ⟨⟨4000, ckce_24_1, ckip_24_0 _ rfl⟩, (fun _ h => absurd h List.not_mem_nil)⟩)
def ckpt_25 : List ck_Pt := []
def cktb_25 : List ck_Co := [ckcn_18, ckcn_19, ckcn_24]
def ckce_25_0 : List Nat := [0, 6, 0, 11, 0, 5, 4, 0, 1, 0, 1, 1, 2, 0, 12, 4, 0, 1, 4, 0, 0, 17, 1, 1, 3, 4, 0, 1, 1, 3, 6, 0, 3, 0, 2, 0, 1, 3, 2, 0, 1, 2, 2, 0, 4, 0, 6, 4, 0, 1, 0, 1, 4, 2, 0, 13, 0, 12, 0, 30, 4, 0, 1, 10, 0, 0, 19, 4, 0, 1, 4, 0, 0, 5, 3, 1, 1, 0, 1, 6, 2, 0, 24, 0, 22, 4, 0, 1, 10, 0, 0, 14, 1, 1, 3, 6, 0, 3, 0, 2, 0, 1, 9, 2, 0, 1, 2, 2, 0, 4, 0, 6, 4, 0, 1, 0, 1, 10, 2, 0, 13, 0, 29, 0, 30, 4, 0, 1, 10, 0, 0, 19, 4, 0, 1, 4, 0, 0, 5, 3, 1, 1, 0, 1, 12, 2, 0, 19, 0, 48, 4, 0, 1, 10, 0, 0, 10, 0, 37, 1, 1, 3, 6, 0, 3, 0, 2, 0, 1, 15, 2, 0, 1, 2, 2, 0, 4, 0, 6, 4, 0, 1, 0, 1, 16, 2, 0, 13, 3, 2, 1, 0, 2, 7, 48, 13, 6, 0, 15, 4, 1, 2, 0, 1, 8, 2, 2, 1, 0, 2, 0, 2, 4, 0, 1, 0, 1, 17, 2, 0, 33, 4, 0, 1, 6, 0, 0, 59, 4, 0, 1, 10, 0, 0, 42, 4, 0, 1, 10, 0]
set_option maxRecDepth 1000000 in
theorem ckie_25 : ck_in0 cktb_25 ckcn_25 ckpt_25 4000 ckce_25_0 = true := by decide +kernel
theorem ckco_25 : ck_CO ckcn_25 := ck_con (tab := cktb_25) (pats := ckpt_25) (List.forall_mem_cons.mpr ⟨ckco_18, (List.forall_mem_cons.mpr ⟨ckco_19, (List.forall_mem_cons.mpr ⟨ckco_24, (fun _ h => absurd h List.not_mem_nil)⟩)⟩)⟩) ckie_25 (fun _ h => absurd h List.not_mem_nil)
def ckpt_26 : List ck_Pt := []
def cktb_26 : List ck_Co := [ckcn_18]
def ckce_26_0 : List Nat := [1, 1, 28, 18, 0, 1, 0, 0, 1, 0, 2, 1, 2, 3, 0, 0, 0, 10, 0, 46, 1, 1, 3, 4, 0, 1, 1, 3, 6, 0, 3, 0, 2, 0, 1, 6, 2, 0, 1, 5, 2, 0, 4, 0, 4, 4, 0, 1, 0, 1, 7, 2, 0, 14, 0, 20, 0, 2, 1, 3, 3, 0, 0, 4, 1, 2, 2, 1, 0, 2, 2, 0, 0, 18, 1, 3, 3, 0, 0, 4, 0, 1, 4, 0, 0, 36, 1, 1, 3, 6, 0, 3, 0, 2, 0, 1, 11, 2, 0, 1, 5, 2, 0, 4, 0, 4, 4, 0, 1, 0, 1, 12, 2, 0, 14, 0, 20, 0, 2, 1, 3, 3, 0, 0, 4, 1, 2, 2, 1, 0, 2, 4, 0, 0, 18, 1, 3, 3, 0, 0, 4, 0, 1, 4, 0, 0, 36, 1, 1, 3, 6, 0, 3, 0, 2, 0, 1, 16, 2, 0, 1, 5, 2, 0, 4, 0, 4, 4, 0, 1, 0, 1, 17, 2, 0, 14, 0, 20, 0, 2, 1, 3, 3, 0, 0, 4, 1, 2, 2, 1, 0, 2, 6, 0, 0, 18, 1, 3, 3, 0, 0, 4, 0, 1, 4, 0, 0, 36, 1, 1, 3, 6, 0, 3, 0, 2, 0, 1, 21, 2, 0, 1, 5, 2, 0, 4, 0, 4, 4, 0, 1, 0, 1, 22, 2, 0, 29, 0, 2, 1, 3, 3, 0, 0, 4, 1, 2, 2, 1, 0, 2, 8, 0, 0, 18, 1, 3, 3, 0, 0, 4, 0, 1, 4, 0, 0, 7, 0, 2, 4, 0, 1, 0, 1, 3, 2, 0, 9, 4, 0, 1, 4, 0, 0, 10, 0, 46, 1, 1, 3, 4, 0, 1, 1, 3, 6, 0, 3, 0, 2, 0, 1, 6, 2, 0, 1, 5, 2, 0, 4, 0, 4, 4, 0, 1, 0, 1, 7, 2, 0, 14, 0, 20, 0, 2, 1, 3, 3, 0, 0, 4, 1, 2, 2, 1, 0, 2, 2, 0, 0, 18, 1, 3, 3, 0, 0, 4, 0, 1, 4, 0, 0, 36, 1, 1, 3, 6, 0, 3, 0, 2, 0, 1, 11, 2, 0, 1, 5, 2, 0, 4, 0, 4, 4, 0, 1, 0, 1, 12, 2, 0, 14, 0, 20, 0, 2, 1, 3, 3, 0, 0, 4, 1, 2, 2, 1, 0, 2, 4, 0, 0, 18, 1, 3, 3, 0, 0, 4, 0, 1, 4, 0, 0, 36, 1, 1, 3, 6, 0, 3, 0, 2, 0, 1, 16, 2, 0, 1, 5, 2, 0, 4, 0, 4, 4, 0, 1, 0, 1, 17, 2, 0, 14, 0, 20, 0, 2, 1, 3, 3, 0, 0, 4, 1, 2, 2, 1, 0, 2, 6, 0, 0, 18, 1, 3, 3, 0, 0, 4, 0, 1, 4, 0, 0, 36, 1, 1, 3, 6, 0, 3, 0, 2, 0, 1, 21, 2, 0, 1, 5, 2, 0, 4, 0, 4, 4, 0, 1, 0, 1, 22, 2, 0, 29, 0, 2, 1, 3, 3, 0, 0, 4, 1, 2, 2, 1, 0, 2, 8, 0, 0, 18, 1, 3, 3, 0, 0, 4, 0, 1, 4, 0, 0, 7, 0, 2, 4, 0, 1, 0, 1, 3, 2, 0, 9, 4, 0, 1, 4, 0, 1, 2, 3, 0, 0, 0, 5, 0, 7, 0, 2, 4, 0, 1, 0, 1, 2, 2, 0, 9, 4, 0, 1, 4, 0, 0, 5, 0, 46, 1, 1, 3, 4, 0, 1, 1, 3, 6, 0, 3, 0, 2, 0, 1, 6, 2, 0, 1, 5, 2, 0, 4, 0, 4, 4, 0, 1, 0, 1, 7, 2, 0, 14, 0, 20, 0, 2, 1, 3, 3, 0, 0, 4, 1, 2, 2, 1, 0, 2, 0, 1, 1, 2, 0, 18, 1, 3, 3, 0, 0, 4, 0, 1, 4, 0, 0, 36, 1, 1, 3, 6, 0, 3, 0, 2, 0, 1, 11, 2, 0, 1, 5, 2, 0, 4, 0, 4, 4, 0, 1, 0, 1, 12, 2, 0, 14, 0, 20, 0, 2, 1, 3, 3, 0, 0, 4, 1, 2, 2, 1, 0, 2, 0, 1, 1, 2, 0, 18, 1, 3, 3, 0, 0, 4, 0, 1, 4, 0, 0, 36, 1, 1, 3, 6, 0, 3, 0, 2, 0, 1, 16, 2, 0, 1, 5, 2, 0, 4, 0, 4, 4, 0, 1, 0, 1, 17, 2, 0, 14, 0, 20, 0, 2, 1, 3, 3, 0, 0, 4, 1, 2, 2, 1, 0, 2, 0, 1, 1, 2, 0, 18, 1, 3, 3, 0, 0, 4, 0, 1, 4, 0, 0, 36, 1, 1, 3, 6, 0, 3, 0, 2, 0, 1, 21, 2, 0, 1, 5, 2, 0, 4, 0, 4, 4, 0, 1, 0, 1, 22, 2, 0, 29, 0, 2, 1, 3, 3, 0, 0, 4, 1, 2, 2, 1, 0, 2, 0, 1, 1, 2, 0, 18, 1, 3, 3, 0, 0, 4, 0, 1, 4, 0, 0, 7, 0, 2, 4, 0, 1, 0, 1, 3, 2, 0, 9, 4, 0, 1, 4, 0]
set_option maxRecDepth 1000000 in
theorem ckie_26 : ck_in0 cktb_26 ckcn_26 ckpt_26 4000 ckce_26_0 = true := by decide +kernel
theorem ckco_26 : ck_CO ckcn_26 := ck_con (tab := cktb_26) (pats := ckpt_26) (List.forall_mem_cons.mpr ⟨ckco_18, (fun _ h => absurd h List.not_mem_nil)⟩) ckie_26 (fun _ h => absurd h List.not_mem_nil)
def ckpt_27 : List ck_Pt := [(((4, [(0, .ofNat 0, .ofNat 7), (1, .ofNat 0, .ofNat 1600), (2, .negSucc 9223372036854775807, .ofNat 9223372036854775807), (3, .ofNat 0, .ofNat 0)], [], [(28, (.ofNat 6, []), (.ofNat 1, [(0, .ofNat 1)])), (33, (.ofNat 0, [(0, .ofNat 1)]), (.ofNat 0, [(2, .ofNat 1)])), (3, (.ofNat 8, []), (.ofNat 0, [(3, .ofNat 1)])), (3, (.ofNat 2, []), (.ofNat 0, [(1, .ofNat 1)])), (2, (.ofNat 1, []), (.ofNat 28, [])), (3, (.ofNat 1, []), (.ofNat 1, []))], [(3, (.ofNat 0, []), (.ofNat 0, []))]), 85, [(0, (2, (.ofNat 2, []))), (3, (0, (.ofNat 1, []))), (4, (0, (.ofNat 0, [])))], []), (.ofNat 10000000, [])), (((7, [(0, .ofNat 0, .ofNat 7), (1, .ofNat 0, .ofNat 1600), (2, .negSucc 9223372036854775807, .ofNat 9223372036854775807), (3, .ofNat 0, .ofNat 0), (4, .ofNat 1, .ofNat 4), (5, .ofNat 0, .ofNat 1), (6, .ofNat 0, .ofNat 29)], [], [(28, (.ofNat 6, []), (.ofNat 1, [(0, .ofNat 1)])), (33, (.ofNat 0, [(0, .ofNat 1)]), (.ofNat 0, [(2, .ofNat 1)])), (3, (.ofNat 8, []), (.ofNat 0, [(3, .ofNat 1)])), (3, (.ofNat 2, []), (.ofNat 0, [(1, .ofNat 1)])), (2, (.ofNat 1, []), (.ofNat 28, [])), (3, (.ofNat 1, []), (.ofNat 1, [])), (35, (.ofNat 0, []), (.ofNat 0, [(4, .ofNat 1)]))], []), 85, [(0, (2, (.ofNat 2, []))), (3, (0, (.ofNat 0, [(5, .ofNat 1)]))), (4, (0, (.ofNat 0, [(6, .ofNat 1)])))], []), (.ofNat 10000000, [(6, .negSucc 0)]))]
def cktb_27 : List ck_Co := [ckcn_18, ckcn_19, ckcn_26]
def ckce_27_0 : List Nat := [0, 6, 0, 11, 0, 5, 4, 0, 1, 0, 1, 1, 2, 0, 12, 4, 0, 1, 4, 0, 0, 17, 1, 1, 3, 4, 0, 1, 1, 3, 6, 0, 3, 0, 2, 0, 1, 3, 2, 0, 1, 2, 2, 0, 4, 0, 6, 4, 0, 1, 0, 1, 4, 2, 0, 17, 0, 8, 0, 2, 1, 1, 3, 6, 0, 3, 0, 2, 0, 1, 7, 2, 0, 1, 2, 2, 0, 4, 0, 5, 4, 0, 1, 0, 1, 8, 2, 0, 13, 0, 2, 1, 1, 3, 6, 0, 3, 0, 2, 0, 1, 10, 2, 0, 1, 2, 2, 0, 4, 0, 4, 4, 0, 1, 0, 1, 11, 2, 0, 23, 2, 0, 4, 0, 1, 0, 2, 0, 1, 2, 2, 0, 1, 5, 2, 0, 1, 11, 2, 0, 19, 4, 0, 1, 4, 0, 0, 20, 4, 0, 1, 4, 0, 0, 5, 3, 1, 1, 0, 1, 5, 2, 0, 21, 4, 0, 1, 6, 0, 0, 12, 1, 1, 3, 6, 0, 3, 0, 2, 0, 1, 7, 2, 0, 1, 2, 2, 0, 4, 0, 5, 4, 0, 1, 0, 1, 8, 2, 0, 13, 0, 2, 1, 1, 3, 6, 0, 3, 0, 2, 0, 1, 10, 2, 0, 1, 2, 2, 0, 4, 0, 4, 4, 0, 1, 0, 1, 11, 2, 0, 23, 2, 0, 4, 0, 1, 0, 2, 0, 1, 2, 2, 0, 1, 5, 2, 0, 1, 11, 2, 0, 19, 4, 0, 1, 4, 0]
def ckce_27_1 : List Nat := [0, 6, 3, 2, 0, 0, 2, 4, 0, 1, 0, 1, 4, 2, 0, 6, 0, 6, 2, 1, 7, 0, 1, 0, 2, 0, 1, 1, 2, 0, 1, 2, 2, 0, 0, 0, 1, 5, 2, 0, 0, 2, 0, 0, 15, 1, 1, 3, 6, 0, 3, 0, 2, 0, 1, 7, 2, 0, 1, 1, 2, 0, 4, 0, 4, 4, 0, 1, 0, 1, 8, 2, 0, 6, 2, 1, 7, 0, 1, 0, 2, 0, 1, 1, 2, 0, 1, 2, 2, 0, 1, 8, 2, 0, 1, 5, 2, 2, 0, 2, 0]
def ckce_27_2 : List Nat := [0, 3, 0, 10, 1, 3, 1, 0, 0, 1, 3, 3, 0, 0, 0, 1, 4, 1, 2, 2, 1, 0, 2, 0, 1, 4, 2, 0, 2, 0, 10, 1, 3, 1, 0, 0, 1, 3, 3, 0, 0, 0, 1, 4, 1, 2, 2, 1, 0, 2, 0, 1, 4, 2, 1, 3, 3, 0, 0, 0, 1, 3, 2, 0, 0, 2, 4, 0, 1, 0, 1, 8, 2, 0, 6, 0, 6, 2, 1, 7, 0, 1, 0, 2, 0, 1, 1, 2, 0, 1, 2, 2, 0, 0, 0, 1, 9, 2, 0, 0, 2, 1, 6, 2, 0, 15, 1, 1, 3, 6, 0, 3, 0, 2, 0, 1, 11, 2, 0, 1, 1, 2, 0, 4, 0, 4, 4, 0, 1, 0, 1, 12, 2, 0, 6, 2, 1, 7, 0, 1, 0, 2, 0, 1, 1, 2, 0, 1, 2, 2, 0, 1, 12, 2, 0, 1, 9, 2, 2, 0, 2, 1, 6, 2]
set_option maxRecDepth 1000000 in
theorem ckie_27 : ck_in0 cktb_27 ckcn_27 ckpt_27 4000 ckce_27_0 = true := by decide +kernel
set_option maxRecDepth 1000000 in
theorem ckip_27_0 : ∀ p, ckpt_27[0]? = some p → ck_inP cktb_27 ckcn_27 ckpt_27 4000 p ckce_27_1 = true := by
  intro p hp
  cases hp
  decide +kernel
set_option maxRecDepth 1000000 in
theorem ckip_27_1 : ∀ p, ckpt_27[1]? = some p → ck_inP cktb_27 ckcn_27 ckpt_27 4000 p ckce_27_2 = true := by
  intro p hp
  cases hp
  decide +kernel
theorem ckco_27 : ck_CO ckcn_27 := ck_con (tab := cktb_27) (pats := ckpt_27) (List.forall_mem_cons.mpr ⟨ckco_18, (List.forall_mem_cons.mpr ⟨ckco_19, (List.forall_mem_cons.mpr ⟨ckco_26, (fun _ h => absurd h List.not_mem_nil)⟩)⟩)⟩) ckie_27 (List.forall_mem_cons.mpr ⟨⟨4000, ckce_27_1, ckip_27_0 _ rfl⟩, (List.forall_mem_cons.mpr ⟨⟨4000, ckce_27_2, ckip_27_1 _ rfl⟩, (fun _ h => absurd h List.not_mem_nil)⟩)⟩)
def ckpt_28 : List ck_Pt := [(((5, [(0, .ofNat 0, .ofNat 6), (1, .ofNat 0, .ofNat 1600), (2, .ofNat 0, .ofNat 0), (3, .ofNat 0, .ofNat 11), (4, .ofNat 0, .ofNat 6)], [], [(3, (.ofNat 5, []), (.ofNat 0, [(3, .ofNat 1)])), (3, (.ofNat 8, []), (.ofNat 0, [(2, .ofNat 1)])), (3, (.ofNat 2, []), (.ofNat 0, [(1, .ofNat 1)])), (28, (.ofNat 14, []), (.ofNat 0, [(0, .ofNat 1)])), (2, (.ofNat 1, []), (.ofNat 28, [])), (3, (.ofNat 1, []), (.ofNat 1, []))], []), 44, [(0, (2, (.ofNat 2, []))), (1, (0, (.ofNat 0, [(4, .ofNat 1)])))], []), (.ofNat 10000000, [(4, .negSucc 0)]))]
def cktb_28 : List ck_Co := [ckcn_18]
def ckce_28_0 : List Nat := [0, 5, 0, 11, 0, 13, 4, 0, 1, 0, 1, 1, 2, 0, 20, 4, 0, 1, 4, 0, 0, 17, 1, 1, 3, 4, 0, 1, 1, 3, 6, 0, 3, 0, 2, 0, 1, 3, 2, 0, 1, 2, 2, 0, 4, 0, 14, 4, 0, 1, 0, 1, 4, 2, 0, 11, 0, 2, 2, 0, 5, 0, 1, 0, 2, 0, 1, 2, 2, 0, 1, 4, 2, 0, 1, 5, 2, 0, 0, 0, 16, 4, 0, 1, 4, 0]
def ckce_28_1 : List Nat := [0, 3, 0, 1, 4, 1, 0, 0, 5, 0, 1, 4, 1, 0, 0, 18, 0, 19, 4, 0, 1, 8, 0, 0, 5, 0, 2, 1, 1, 3, 6, 0, 3, 0, 2, 0, 1, 6, 2, 0, 1, 1, 2, 0, 4, 0, 4, 4, 0, 1, 0, 1, 7, 2, 0, 18, 1, 1, 3, 10, 0, 2, 0, 5, 2, 1, 4, 2, 0, 1, 1, 2, 0, 1, 7, 2, 0, 1, 8, 2, 2, 1, 4, 2, 0, 19, 4, 0, 1, 8, 0]
set_option maxRecDepth 1000000 in
theorem ckie_28 : ck_in0 cktb_28 ckcn_28 ckpt_28 4000 ckce_28_0 = true := by decide +kernel
set_option maxRecDepth 1000000 in
theorem ckip_28_0 : ∀ p, ckpt_28[0]? = some p → ck_inP cktb_28 ckcn_28 ckpt_28 4000 p ckce_28_1 = true := by
  intro p hp
  cases hp
  decide +kernel
theorem ckco_28 : ck_CO ckcn_28 := ck_con (tab := cktb_28) (pats := ckpt_28) (List.forall_mem_cons.mpr ⟨ckco_18, (fun _ h => absurd h List.not_mem_nil)⟩) ckie_28 (List.forall_mem_cons.mpr ⟨⟨4000, ckce_28_1, ckip_28_0 _ rfl⟩, (fun _ h => absurd h List.not_mem_nil)⟩)
def ckpt_29 : List ck_Pt := [(((3, [(0, .ofNat 0, .ofNat 1600), (1, .ofNat 0, .ofNat 1600), (2, .ofNat 0, .ofNat 24)], [], [(3, (.ofNat 1, []), (.ofNat 1, [])), (34, (.ofNat 0, []), (.ofNat 0, [(2, .ofNat 1)])), (2, (.ofNat 1, []), (.ofNat 28, []))], []), 41, [(0, (2, (.ofNat 2, []))), (4, (0, (.ofNat 0, []))), (5, (0, (.ofNat 0, [(1, .ofNat 1)])))], []), (.ofNat 10000000, [(1, .negSucc 0)])), (((3, [(0, .ofNat 0, .ofNat 1600), (1, .ofNat 0, .ofNat 1600), (2, .ofNat 0, .ofNat 24)], [], [(3, (.ofNat 1, []), (.ofNat 1, [])), (34, (.ofNat 0, []), (.ofNat 0, [(2, .ofNat 1)])), (2, (.ofNat 1, []), (.ofNat 28, []))], [(1, (.ofNat 0, []), (.ofNat 0, [])), (3, (.ofNat 0, []), (.ofNat 0, []))]), 41, [(0, (2, (.ofNat 2, []))), (4, (0, (.ofNat 1, []))), (5, (0, (.ofNat 0, [(1, .ofNat 1)])))], []), (.ofNat 10000000, [(1, .negSucc 0)]))]
def cktb_29 : List ck_Co := [ckcn_15, ckcn_18, ckcn_21, ckcn_23, ckcn_25, ckcn_27, ckcn_28]
def ckce_29_0 : List Nat := [0, 5, 3, 0, 0, 1, 3, 1, 0, 0, 1, 3, 3, 0, 0, 0, 24, 3, 1, 2, 0, 0, 0, 1, 0, 2, 0, 5, 0, 4, 2, 0, 3, 0, 1, 0, 2, 0, 0, 0, 0, 0, 5, 2, 1, 3, 0, 1, 0, 2, 0, 0, 0, 0]
def ckce_29_1 : List Nat := [0, 3, 0, 3, 4, 0, 1, 0, 1, 0, 2, 0, 5, 4, 0, 1, 0, 1, 0, 2]
def ckce_29_2 : List Nat := [0, 3, 0, 3, 3, 2, 0, 0, 3, 4, 1, 1, 0, 1, 0, 2, 0, 2, 4, 0, 1, 0, 1, 0, 2, 0, 6, 0, 3, 3, 2, 0, 0, 3, 4, 1, 1, 0, 1, 0, 2, 0, 2, 4, 0, 1, 0, 1, 0, 2, 0, 4, 0, 7, 0, 9, 2, 0, 3, 0, 1, 0, 2, 2, 1, 1, 2, 0, 1, 2, 2, 0, 16, 2, 0, 3, 0, 1, 0, 2, 2, 1, 1, 2, 0, 1, 2, 2, 0, 1, 3, 3, 0, 0, 8, 2, 0, 3, 0, 1, 0, 2, 2, 1, 1, 2, 0, 1, 2, 2, 0, 12, 0, 2, 1, 1, 3, 4, 0, 1, 1, 3, 6, 0, 3, 1, 2, 0, 1, 7, 2, 0, 1, 6, 2, 0, 4, 0, 7, 2, 0, 3, 0, 1, 0, 2, 2, 1, 1, 2, 0, 1, 2, 2, 0, 9, 2, 1, 3, 0, 1, 0, 2, 2, 1, 1, 2, 0, 1, 2, 2, 0, 7, 0, 8, 2, 0, 3, 0, 1, 0, 2, 2, 1, 1, 2, 0, 1, 2, 2, 0, 15, 2, 0, 3, 0, 1, 0, 2, 2, 1, 1, 2, 0, 1, 2, 2, 0, 1, 3, 4, 0, 0, 8, 2, 0, 3, 0, 1, 0, 2, 2, 1, 1, 2, 0, 1, 2, 2, 0, 12, 0, 2, 1, 1, 3, 4, 0, 1, 1, 3, 6, 0, 3, 1, 2, 0, 1, 8, 2, 0, 1, 7, 2, 0, 4, 0, 7, 2, 0, 3, 0, 1, 0, 2, 2, 1, 1, 2, 0, 1, 2, 2, 0, 9, 2, 1, 3, 0, 1, 0, 2, 2, 1, 1, 2, 0, 1, 2, 2, 0, 7, 0, 8, 2, 0, 3, 0, 1, 0, 2, 2, 1, 1, 2, 0, 1, 2, 2, 0, 15, 2, 0, 3, 0, 1, 0, 2, 2, 1, 1, 2, 0, 1, 2, 2, 0, 1, 3, 5, 0, 0, 8, 1, 1, 34, 0, 0, 2, 0, 3, 0, 1, 0, 2, 2, 1, 1, 2, 0, 1, 5, 2, 0, 12, 0, 2, 1, 1, 3, 4, 0, 1, 1, 3, 6, 0, 3, 1, 2, 0, 1, 8, 2, 0, 1, 7, 2, 0, 4, 0, 7, 1, 1, 34, 0, 0, 2, 0, 3, 0, 1, 0, 2, 2, 1, 1, 2, 0, 1, 10, 2, 0, 9, 1, 1, 34, 0, 0, 2, 1, 3, 0, 1, 0, 2, 2, 1, 1, 2, 0, 1, 10, 2, 0, 22, 1, 1, 34, 0, 0, 2, 0, 3, 0, 1, 0, 2, 2, 1, 1, 2, 0, 1, 8, 2, 0, 7, 0, 9, 2, 0, 3, 0, 1, 0, 2, 2, 1, 1, 2, 0, 1, 2, 2, 0, 16, 2, 0, 3, 0, 1, 0, 2, 2, 1, 1, 2, 0, 1, 2, 2, 0, 7, 0, 11, 0, 14, 2, 0, 3, 0, 1, 0, 2, 2, 1, 1, 2, 0, 1, 2, 2, 0, 21, 2, 0, 3, 0, 1, 0, 2, 2, 1, 1, 2, 0, 1, 2, 2, 0, 17, 1, 1, 3, 4, 0, 1, 1, 3, 6, 0, 3, 1, 2, 0, 1, 6, 2, 0, 1, 5, 2, 0, 4, 0, 15, 2, 0, 3, 0, 1, 0, 2, 2, 1, 1, 2, 0, 1, 2, 2, 0, 19, 0, 5, 0, 28, 2, 0, 3, 0, 1, 0, 2, 2, 1, 1, 2, 0, 1, 2, 2, 0, 5, 0, 2, 1, 1, 3, 6, 0, 3, 1, 2, 0, 1, 10, 2, 0, 1, 5, 2, 0, 4, 0, 13, 2, 0, 3, 0, 1, 0, 2, 2, 1, 1, 2, 0, 1, 2, 2, 0, 26, 0, 2, 1, 1, 3, 6, 0, 3, 1, 2, 0, 1, 13, 2, 0, 1, 5, 2, 0, 4, 0, 7, 2, 0, 3, 0, 1, 0, 2, 2, 1, 1, 2, 0, 1, 2, 2, 0, 9, 2, 1, 3, 0, 1, 0, 2, 2, 1, 1, 2, 0, 1, 2, 2, 0, 22, 2, 0, 3, 0, 1, 0, 2, 2, 1, 1, 2, 0, 1, 2, 2, 0, 28, 2, 0, 3, 0, 1, 0, 2, 2, 1, 1, 2, 0, 1, 2, 2, 0, 28, 2, 0, 3, 0, 1, 0, 2, 2, 1, 1, 2, 0, 1, 2, 2, 0, 1, 3, 6, 0, 0, 8, 2, 0, 3, 0, 1, 0, 2, 2, 1, 1, 2, 0, 1, 2, 2, 0, 12, 0, 2, 1, 1, 3, 4, 0, 1, 1, 3, 6, 0, 3, 1, 2, 0, 1, 6, 2, 0, 1, 5, 2, 0, 4, 0, 7, 2, 0, 3, 0, 1, 0, 2, 2, 1, 1, 2, 0, 1, 2, 2, 0, 9, 2, 1, 3, 0, 1, 0, 2, 2, 1, 1, 2, 0, 1, 2, 2, 0, 22, 2, 0, 3, 0, 1, 0, 2, 2, 1, 1, 2, 0, 1, 2, 2]
set_option maxRecDepth 1000000 in
theorem ckie_29 : ck_in0 cktb_29 ckcn_29 ckpt_29 4000 ckce_29_0 = true := by decide +kernel
set_option maxRecDepth 1000000 in
theorem ckip_29_0 : ∀ p, ckpt_29[0]? = some p → ck_inP cktb_29 ckcn_29 ckpt_29 4000 p ckce_29_1 = true := by
  intro p hp
  cases hp
  decide +kernel
set_option maxRecDepth 1000000 in
theorem ckip_29_1 : ∀ p, ckpt_29[1]? = some p → ck_inP cktb_29 ckcn_29 ckpt_29 4000 p ckce_29_2 = true := by
  intro p hp
  cases hp
  decide +kernel
theorem ckco_29 : ck_CO ckcn_29 := ck_con (tab := cktb_29) (pats := ckpt_29) (List.forall_mem_cons.mpr ⟨ckco_15, (List.forall_mem_cons.mpr ⟨ckco_18, (List.forall_mem_cons.mpr ⟨ckco_21, (List.forall_mem_cons.mpr ⟨ckco_23, (List.forall_mem_cons.mpr ⟨ckco_25, (List.forall_mem_cons.mpr ⟨ckco_27, (List.forall_mem_cons.mpr ⟨ckco_28, (fun _ h => absurd h List.not_mem_nil)⟩)⟩)⟩)⟩)⟩)⟩)⟩) ckie_29 (List.forall_mem_cons.mpr ⟨⟨4000, ckce_29_1, ckip_29_0 _ rfl⟩, (List.forall_mem_cons.mpr ⟨⟨4000, ckce_29_2, ckip_29_1 _ rfl⟩, (fun _ h => absurd h List.not_mem_nil)⟩)⟩)
def ckpt_30 : List ck_Pt := [(((1, [(0, .ofNat 0, .ofNat 6)], [], [], []), 5, [(0, (2, (.ofNat 40, []))), (1, (0, (.negSucc 0, []))), (2, (0, (.ofNat 0, [(0, .ofNat 1)]))), (3, (0, (.ofNat 6, [])))], []), (.ofNat 10000000, [(0, .negSucc 0)]))]
def cktb_30 : List ck_Co := []
def ckce_30_0 : List Nat := [0, 5, 2, 0, 1, 0, 0]
def ckce_30_1 : List Nat := [0, 3, 4, 0, 0, 0, 6, 2, 0, 1, 2, 1, 0, 2]
set_option maxRecDepth 1000000 in
theorem ckie_30 : ck_in0 cktb_30 ckcn_30 ckpt_30 4000 ckce_30_0 = true := by decide +kernel
set_option maxRecDepth 1000000 in
theorem ckip_30_0 : ∀ p, ckpt_30[0]? = some p → ck_inP cktb_30 ckcn_30 ckpt_30 4000 p ckce_30_1 = true := by
  intro p hp
  cases hp
  decide +kernel
theorem ckco_30 : ck_CO ckcn_30 := ck_con (tab := cktb_30) (pats := ckpt_30) (fun _ h => absurd h List.not_mem_nil) ckie_30 (List.forall_mem_cons.mpr ⟨⟨4000, ckce_30_1, ckip_30_0 _ rfl⟩, (fun _ h => absurd h List.not_mem_nil)⟩)
def ckpt_31 : List ck_Pt := []
def cktb_31 : List ck_Co := [ckcn_29, ckcn_30]
def ckce_31_0 : List Nat := [0, 8, 3, 0, 1, 0, 1, 3, 2, 0, 2, 4, 0, 3, 0, 1, 0, 2, 0, 1, 1, 2, 0, 1, 2, 2, 0, 25, 3, 1, 0, 0, 97, 4, 1, 4, 0, 1, 0, 2, 0, 1, 1, 2, 0, 1, 2, 2, 0, 1, 4, 2]
set_option maxRecDepth 1000000 in
theorem ckie_31 : ck_in0 cktb_31 ckcn_31 ckpt_31 4000 ckce_31_0 = true := by decide +kernel
theorem ckco_31 : ck_CO ckcn_31 := ck_con (tab := cktb_31) (pats := ckpt_31) (List.forall_mem_cons.mpr ⟨ckco_29, (List.forall_mem_cons.mpr ⟨ckco_30, (fun _ h => absurd h List.not_mem_nil)⟩)⟩) ckie_31 (fun _ h => absurd h List.not_mem_nil)
def ckpt_32 : List ck_Pt := [(((1, [(0, .ofNat 0, .ofNat 192)], [], [], []), 5, [(0, (2, (.ofNat 22, []))), (1, (0, (.ofNat 0, []))), (2, (0, (.ofNat 0, [(0, .ofNat 1)]))), (3, (0, (.ofNat 192, [])))], []), (.ofNat 10000000, [(0, .negSucc 0)]))]
def cktb_32 : List ck_Co := []
def ckce_32_0 : List Nat := [0, 5, 2, 0, 1, 0, 0]
def ckce_32_1 : List Nat := [0, 3, 4, 0, 0, 0, 6, 2, 0, 1, 2, 1, 0, 2]
set_option maxRecDepth 1000000 in
theorem ckie_32 : ck_in0 cktb_32 ckcn_32 ckpt_32 4000 ckce_32_0 = true := by decide +kernel
set_option maxRecDepth 1000000 in
theorem ckip_32_0 : ∀ p, ckpt_32[0]? = some p → ck_inP cktb_32 ckcn_32 ckpt_32 4000 p ckce_32_1 = true := by
  intro p hp
  cases hp
  decide +kernel
theorem ckco_32 : ck_CO ckcn_32 := ck_con (tab := cktb_32) (pats := ckpt_32) (fun _ h => absurd h List.not_mem_nil) ckie_32 (List.forall_mem_cons.mpr ⟨⟨4000, ckce_32_1, ckip_32_0 _ rfl⟩, (fun _ h => absurd h List.not_mem_nil)⟩)
def ckpt_33 : List ck_Pt := [(((1, [(0, .ofNat 0, .ofNat 64)], [], [(18, (.ofNat 3, []), (.ofNat 0, [])), (18, (.ofNat 0, []), (.ofNat 0, []))], []), 20, [(0, (2, (.ofNat 18, []))), (1, (0, (.ofNat 0, [(0, .ofNat 1)])))], []), (.ofNat 10000000, [(0, .negSucc 0)]))]
def cktb_33 : List ck_Co := [ckcn_32]
def ckce_33_0 : List Nat := [0, 9, 3, 0, 0, 0, 2, 2, 0, 1, 0, 0]
def ckce_33_1 : List Nat := [0, 5, 0, 20, 4, 0, 0, 0, 7, 2, 0, 1, 2, 1, 0, 2]
set_option maxRecDepth 1000000 in
theorem ckie_33 : ck_in0 cktb_33 ckcn_33 ckpt_33 4000 ckce_33_0 = true := by decide +kernel
set_option maxRecDepth 1000000 in
theorem ckip_33_0 : ∀ p, ckpt_33[0]? = some p → ck_inP cktb_33 ckcn_33 ckpt_33 4000 p ckce_33_1 = true := by
  intro p hp
  cases hp
  decide +kernel
theorem ckco_33 : ck_CO ckcn_33 := ck_con (tab := cktb_33) (pats := ckpt_33) (List.forall_mem_cons.mpr ⟨ckco_32, (fun _ h => absurd h List.not_mem_nil)⟩) ckie_33 (List.forall_mem_cons.mpr ⟨⟨4000, ckce_33_1, ckip_33_0 _ rfl⟩, (fun _ h => absurd h List.not_mem_nil)⟩)
def ckpt_34 : List ck_Pt := [(((2, [(0, .negSucc 9223372036854775807, .ofNat 9223372036854775807), (1, .ofNat 0, .ofNat 8)], [], [], []), 2, [(0, (2, (.ofNat 18, []))), (1, (1, (.ofNat 0, [(0, .ofNat 1)]))), (3, (0, (.ofNat 0, [(1, .ofNat 1)])))], []), (.ofNat 20000000, [(1, .negSucc 0)])), (((3, [(0, .negSucc 9223372036854775807, .ofNat 9223372036854775807), (1, .ofNat 0, .ofNat 8), (2, .ofNat 0, .ofNat 8)], [], [(18, (.ofNat 0, []), (.ofNat 0, [(1, .ofNat 1)]))], []), 31, [(0, (2, (.ofNat 18, []))), (1, (1, (.ofNat 0, [(0, .ofNat 1)]))), (3, (0, (.ofNat 0, [(2, .ofNat 1)])))], []), (.ofNat 10000000, [(2, .negSucc 0)]))]
def cktb_34 : List ck_Co := []
def ckce_34_0 : List Nat := [0, 2, 2, 0, 2, 0, 1, 0, 2, 0, 0]
def ckce_34_1 : List Nat := [0, 4, 0, 2, 2, 1, 3, 0, 1, 0, 2, 0, 1, 2, 2, 0, 0, 0, 6, 0, 3, 2, 0, 2, 0, 1, 0, 2, 2, 1, 1, 2, 0, 2, 4, 0, 2, 0, 1, 0, 2, 0, 1, 1, 2, 0, 3, 2, 0, 2, 0, 1, 0, 2, 2, 1, 1, 2]
def ckce_34_2 : List Nat := [0, 4, 0, 1, 4, 1, 1, 0, 1, 0, 2, 0, 6, 0, 3, 2, 1, 3, 0, 1, 0, 2, 0, 1, 1, 2, 2, 1, 2, 2, 0, 4, 4, 0, 2, 0, 1, 0, 2, 16, 1, 2, 2, 0, 3, 2, 1, 3, 0, 1, 0, 2, 0, 1, 1, 2, 2, 1, 2, 2]
set_option maxRecDepth 1000000 in
theorem ckie_34 : ck_in0 cktb_34 ckcn_34 ckpt_34 4000 ckce_34_0 = true := by decide +kernel
set_option maxRecDepth 1000000 in
theorem ckip_34_0 : ∀ p, ckpt_34[0]? = some p → ck_inP cktb_34 ckcn_34 ckpt_34 4000 p ckce_34_1 = true := by
  intro p hp
  cases hp
  decide +kernel
set_option maxRecDepth 1000000 in
theorem ckip_34_1 : ∀ p, ckpt_34[1]? = some p → ck_inP cktb_34 ckcn_34 ckpt_34 4000 p ckce_34_2 = true := by
  intro p hp
  cases hp
  decide +kernel
theorem ckco_34 : ck_CO ckcn_34 := ck_con (tab := cktb_34) (pats := ckpt_34) (fun _ h => absurd h List.not_mem_nil) ckie_34 (List.forall_mem_cons.mpr ⟨⟨4000, ckce_34_1, ckip_34_0 _ rfl⟩, (List.forall_mem_cons.mpr ⟨⟨4000, ckce_34_2, ckip_34_1 _ rfl⟩, (fun _ h => absurd h List.not_mem_nil)⟩)⟩)
def ckpt_35 : List ck_Pt := [(((3, [(0, .ofNat 0, .ofNat 7), (1, .ofNat 0, .ofNat 23), (2, .ofNat 0, .ofNat 4)], [], [(2, (.ofNat 1, []), (.ofNat 18, [])), (3, (.ofNat 1, []), (.ofNat 1, []))], []), 2, [(0, (2, (.ofNat 2, []))), (1, (0, (.ofNat 0, [(0, .ofNat 1)]))), (2, (0, (.ofNat 0, [(1, .ofNat 1)]))), (3, (0, (.ofNat 0, [(2, .ofNat 1)])))], []), (.ofNat 10000000, [(2, .negSucc 0)]))]
def cktb_35 : List ck_Co := [ckcn_34]
def ckce_35_0 : List Nat := [0, 2, 2, 0, 3, 0, 1, 0, 2, 0, 1, 1, 2, 0, 0]
def ckce_35_1 : List Nat := [0, 7, 0, 1, 4, 0, 2, 0, 1, 0, 2, 0, 1, 1, 2, 0, 12, 3, 0, 1, 0, 1, 4, 2, 0, 18, 0, 12, 2, 0, 3, 0, 1, 0, 2, 0, 1, 1, 2, 2, 1, 2, 2, 0, 8, 0, 8, 2, 0, 3, 0, 1, 0, 2, 0, 1, 1, 2, 2, 1, 2, 2, 0, 5, 0, 8, 2, 0, 3, 0, 1, 0, 2, 0, 1, 1, 2, 2, 1, 2, 2, 0, 7, 0, 2, 4, 1, 3, 0, 1, 0, 2, 0, 1, 1, 2, 0, 1, 7, 2, 0, 9, 4, 1, 3, 0, 1, 0, 2, 0, 1, 1, 2, 14, 0, 0, 18, 0, 2, 4, 1, 3, 0, 1, 0, 2, 0, 1, 1, 2, 0, 1, 6, 2, 0, 9, 4, 1, 3, 0, 1, 0, 2, 0, 1, 1, 2, 12, 0]
set_option maxRecDepth 1000000 in
theorem ckie_35 : ck_in0 cktb_35 ckcn_35 ckpt_35 4000 ckce_35_0 = true := by decide +kernel
set_option maxRecDepth 1000000 in
theorem ckip_35_0 : ∀ p, ckpt_35[0]? = some p → ck_inP cktb_35 ckcn_35 ckpt_35 4000 p ckce_35_1 = true := by
  intro p hp
  cases hp
  decide +kernel
theorem ckco_35 : ck_CO ckcn_35 := ck_con (tab := cktb_35) (pats := ckpt_35) (List.forall_mem_cons.mpr ⟨ckco_34, (fun _ h => absurd h List.not_mem_nil)⟩) ckie_35 (List.forall_mem_cons.mpr ⟨⟨4000, ckce_35_1, ckip_35_0 _ rfl⟩, (fun _ h => absurd h List.not_mem_nil)⟩)
def ckpt_36 : List ck_Pt := [(((1, [(0, .ofNat 0, .ofNat 8)], [], [(2, (.ofNat 1, []), (.ofNat 18, [])), (3, (.ofNat 1, []), (.ofNat 1, []))], []), 2, [(0, (2, (.ofNat 2, []))), (1, (0, (.ofNat 0, [(0, .ofNat 1)])))], []), (.ofNat 10000000001000000000, [(0, .negSucc 999999999999)])), (((4, [(0, .ofNat 1, .ofNat 8), (1, .ofNat 0, .ofNat 24), (2, .ofNat 0, .ofNat 7), (3, .ofNat 0, .ofNat 24)], [], [(24, (.ofNat 0, []), (.ofNat 0, [(3, .ofNat 1)])), (18, (.ofNat 6, []), (.ofNat 0, [(0, .ofNat 1)])), (2, (.ofNat 1, []), (.ofNat 18, [])), (3, (.ofNat 1, []), (.ofNat 1, []))], []), 23, [(0, (2, (.ofNat 2, []))), (1, (0, (.ofNat 0, [(2, .ofNat 1)]))), (2, (0, (.ofNat 0, [(1, .ofNat 1)])))], []), (.ofNat 10000000000010000000, [(1, .negSucc 0), (2, .negSucc 999999999999)]))]
def cktb_36 : List ck_Co := [ckcn_35]
def ckce_36_0 : List Nat := [0, 2, 2, 0, 1, 0, 0]
def ckce_36_1 : List Nat := [0, 5, 0, 1, 4, 0, 0, 0, 6, 1, 1, 24, 0, 0, 2, 1, 4, 0, 1, 1, 2, 0, 1, 2, 2, 0, 1, 0, 2, 0, 1, 3, 2]
def ckce_36_2 : List Nat := [0, 9, 0, 2, 2, 0, 1, 2, 1, 2, 2, 0, 3, 3, 0, 2, 0, 1, 2, 2, 0, 1, 1, 2, 0, 3, 2, 1, 4, 0, 1, 0, 2, 2, 1, 1, 2, 0, 1, 2, 2, 0, 1, 3, 2, 0, 2, 4, 1, 2, 0, 1, 0, 2, 0, 1, 5, 2]
set_option maxRecDepth 1000000 in
theorem ckie_36 : ck_in0 cktb_36 ckcn_36 ckpt_36 4000 ckce_36_0 = true := by decide +kernel
set_option maxRecDepth 1000000 in
theorem ckip_36_0 : ∀ p, ckpt_36[0]? = some p → ck_inP cktb_36 ckcn_36 ckpt_36 4000 p ckce_36_1 = true := by
  intro p hp
  cases hp
  decide +kernel
set_option maxRecDepth 1000000 in
theorem ckip_36_1 : ∀ p, ckpt_36[1]? = some p → ck_inP cktb_36 ckcn_36 ckpt_36 4000 p ckce_36_2 = true := by
  intro p hp
  cases hp
  decide +kernel
theorem ckco_36 : ck_CO ckcn_36 := ck_con (tab := cktb_36) (pats := ckpt_36) (List.forall_mem_cons.mpr ⟨ckco_35, (fun _ h => absurd h List.not_mem_nil)⟩) ckie_36 (List.forall_mem_cons.mpr ⟨⟨4000, ckce_36_1, ckip_36_0 _ rfl⟩, (List.forall_mem_cons.mpr ⟨⟨4000, ckce_36_2, ckip_36_1 _ rfl⟩, (fun _ h => absurd h List.not_mem_nil)⟩)⟩)
def ckpt_37 : List ck_Pt := [(((2, [(0, .ofNat 0, .ofNat 21), (1, .ofNat 0, .ofNat 3)], [], [(2, (.ofNat 1, []), (.ofNat 18, [])), (3, (.ofNat 1, []), (.ofNat 1, []))], []), 2, [(0, (2, (.ofNat 2, []))), (1, (2, (.ofNat 20, []))), (2, (0, (.ofNat 0, [(0, .ofNat 1)]))), (3, (0, (.ofNat 0, [(1, .ofNat 1)])))], []), (.ofNat 10000000, [(1, .negSucc 0)]))]
def cktb_37 : List ck_Co := [ckcn_18]
def ckce_37_0 : List Nat := [0, 2, 2, 0, 2, 0, 1, 0, 2, 0, 0]
def ckce_37_1 : List Nat := [0, 3, 0, 1, 4, 0, 1, 0, 1, 0, 2, 0, 13, 0, 5, 0, 7, 0, 5, 4, 1, 2, 0, 1, 0, 2, 0, 1, 4, 2, 0, 12, 4, 1, 2, 0, 1, 0, 2, 8, 0, 0, 5, 0, 2, 1, 1, 3, 4, 0, 1, 1, 3, 6, 0, 3, 0, 2, 0, 1, 5, 2, 0, 1, 4, 2, 0, 4, 0, 4, 4, 1, 2, 0, 1, 0, 2, 0, 1, 6, 2, 0, 14, 2, 0, 2, 0, 1, 0, 2, 2, 1, 1, 2, 0, 7, 0, 5, 4, 1, 2, 0, 1, 0, 2, 0, 1, 4, 2, 0, 12, 4, 1, 2, 0, 1, 0, 2, 8, 0, 0, 7, 0, 5, 4, 1, 2, 0, 1, 0, 2, 0, 1, 4, 2, 0, 12, 4, 1, 2, 0, 1, 0, 2, 4, 0]
set_option maxRecDepth 1000000 in
theorem ckie_37 : ck_in0 cktb_37 ckcn_37 ckpt_37 4000 ckce_37_0 = true := by decide +kernel
set_option maxRecDepth 1000000 in
theorem ckip_37_0 : ∀ p, ckpt_37[0]? = some p → ck_inP cktb_37 ckcn_37 ckpt_37 4000 p ckce_37_1 = true := by
  intro p hp
  cases hp
  decide +kernel
theorem ckco_37 : ck_CO ckcn_37 := ck_con (tab := cktb_37) (pats := ckpt_37) (List.forall_mem_cons.mpr ⟨ckco_18, (fun _ h => absurd h List.not_mem_nil)⟩) ckie_37 (List.forall_mem_cons.mpr ⟨⟨4000, ckce_37_1, ckip_37_0 _ rfl⟩, (fun _ h => absurd h List.not_mem_nil)⟩)
def ckpt_38 : List ck_Pt := []
def cktb_38 : List ck_Co := [ckcn_18, ckcn_37, ckcn_34]
def ckce_38_0 : List Nat := [0, 6, 0, 11, 0, 5, 4, 0, 1, 0, 1, 1, 2, 0, 12, 4, 0, 1, 4, 0, 0, 17, 1, 1, 3, 4, 0, 1, 1, 3, 6, 0, 3, 0, 2, 0, 1, 3, 2, 0, 1, 2, 2, 0, 4, 0, 6, 4, 0, 1, 0, 1, 4, 2, 0, 17, 0, 8, 0, 2, 1, 1, 3, 6, 0, 3, 0, 2, 0, 1, 7, 2, 0, 1, 2, 2, 0, 4, 0, 5, 4, 0, 1, 0, 1, 8, 2, 0, 14, 3, 1, 1, 0, 1, 0, 6, 0, 17, 4, 1, 1, 2, 1, 0, 2, 0, 2, 4, 0, 1, 0, 1, 9, 2, 0, 20, 4, 0, 1, 4, 0, 0, 5, 3, 2, 1, 0, 1, 5, 2, 0, 21, 4, 0, 1, 6, 0, 0, 12, 1, 1, 3, 6, 0, 3, 0, 2, 0, 1, 7, 2, 0, 1, 2, 2, 0, 4, 0, 5, 4, 0, 1, 0, 1, 8, 2, 0, 14, 3, 1, 1, 0, 1, 0, 6, 0, 17, 4, 1, 1, 2, 1, 0, 2, 0, 2, 4, 0, 1, 0, 1, 9, 2]
set_option maxRecDepth 1000000 in
theorem ckie_38 : ck_in0 cktb_38 ckcn_38 ckpt_38 4000 ckce_38_0 = true := by decide +kernel
theorem ckco_38 : ck_CO ckcn_38 := ck_con (tab := cktb_38) (pats := ckpt_38) (List.forall_mem_cons.mpr ⟨ckco_18, (List.forall_mem_cons.mpr ⟨ckco_37, (List.forall_mem_cons.mpr ⟨ckco_34, (fun _ h => absurd h List.not_mem_nil)⟩)⟩)⟩) ckie_38 (fun _ h => absurd h List.not_mem_nil)
def ckpt_39 : List ck_Pt := [(((2, [(0, .ofNat 0, .ofNat 189), (1, .ofNat 0, .ofNat 3)], [], [(2, (.ofNat 1, []), (.ofNat 18, [])), (3, (.ofNat 1, []), (.ofNat 1, []))], []), 2, [(0, (2, (.ofNat 2, []))), (1, (2, (.ofNat 22, []))), (2, (0, (.ofNat 0, [(0, .ofNat 1)]))), (3, (0, (.ofNat 0, [(1, .ofNat 1)])))], []), (.ofNat 10000000, [(1, .negSucc 0)]))]
def cktb_39 : List ck_Co := [ckcn_18]
def ckce_39_0 : List Nat := [0, 2, 2, 0, 2, 0, 1, 0, 2, 0, 0]
def ckce_39_1 : List Nat := [0, 3, 0, 1, 4, 0, 1, 0, 1, 0, 2, 0, 13, 0, 5, 0, 7, 0, 5, 4, 1, 2, 0, 1, 0, 2, 0, 1, 4, 2, 0, 12, 4, 1, 2, 0, 1, 0, 2, 8, 0, 0, 5, 0, 2, 1, 1, 3, 4, 0, 1, 1, 3, 6, 0, 3, 0, 2, 0, 1, 5, 2, 0, 1, 4, 2, 0, 4, 0, 4, 4, 1, 2, 0, 1, 0, 2, 0, 1, 6, 2, 0, 14, 2, 0, 2, 0, 1, 0, 2, 2, 1, 1, 2, 0, 7, 0, 5, 4, 1, 2, 0, 1, 0, 2, 0, 1, 4, 2, 0, 12, 4, 1, 2, 0, 1, 0, 2, 8, 0, 0, 7, 0, 5, 4, 1, 2, 0, 1, 0, 2, 0, 1, 4, 2, 0, 12, 4, 1, 2, 0, 1, 0, 2, 4, 0]
set_option maxRecDepth 1000000 in
theorem ckie_39 : ck_in0 cktb_39 ckcn_39 ckpt_39 4000 ckce_39_0 = true := by decide +kernel
set_option maxRecDepth 1000000 in
theorem ckip_39_0 : ∀ p, ckpt_39[0]? = some p → ck_inP cktb_39 ckcn_39 ckpt_39 4000 p ckce_39_1 = true := by
  intro p hp
  cases hp
  decide +kernel
theorem ckco_39 : ck_CO ckcn_39 := ck_con (tab := cktb_39) (pats := ckpt_39) (List.forall_mem_cons.mpr ⟨ckco_18, (fun _ h => absurd h List.not_mem_nil)⟩) ckie_39 (List.forall_mem_cons.mpr ⟨⟨4000, ckce_39_1, ckip_39_0 _ rfl⟩, (fun _ h => absurd h List.not_mem_nil)⟩)
def ckpt_40 : List ck_Pt := []
def cktb_40 : List ck_Co := [ckcn_18, ckcn_34, ckcn_39]
def ckce_40_0 : List Nat := [0, 6, 0, 11, 0, 5, 4, 0, 1, 0, 1, 1, 2, 0, 12, 4, 0, 1, 4, 0, 0, 17, 1, 1, 3, 4, 0, 1, 1, 3, 6, 0, 3, 0, 2, 0, 1, 3, 2, 0, 1, 2, 2, 0, 4, 0, 6, 4, 0, 1, 0, 1, 4, 2, 0, 13, 0, 12, 0, 30, 4, 0, 1, 10, 0, 0, 19, 4, 0, 1, 4, 0, 0, 5, 3, 1, 1, 0, 1, 6, 2, 0, 24, 0, 22, 4, 0, 1, 10, 0, 0, 14, 1, 1, 3, 6, 0, 3, 0, 2, 0, 1, 9, 2, 0, 1, 2, 2, 0, 4, 0, 6, 4, 0, 1, 0, 1, 10, 2, 0, 13, 0, 29, 0, 30, 4, 0, 1, 10, 0, 0, 19, 4, 0, 1, 4, 0, 0, 5, 3, 1, 1, 0, 1, 12, 2, 0, 19, 0, 48, 4, 0, 1, 10, 0, 0, 10, 0, 37, 1, 1, 3, 6, 0, 3, 0, 2, 0, 1, 15, 2, 0, 1, 2, 2, 0, 4, 0, 6, 4, 0, 1, 0, 1, 16, 2, 0, 13, 3, 2, 1, 0, 2, 7, 48, 13, 6, 0, 15, 4, 1, 2, 0, 1, 8, 2, 2, 1, 0, 2, 0, 2, 4, 0, 1, 0, 1, 17, 2, 0, 33, 4, 0, 1, 6, 0, 0, 59, 4, 0, 1, 10, 0, 0, 42, 4, 0, 1, 10, 0]
set_option maxRecDepth 1000000 in
theorem ckie_40 : ck_in0 cktb_40 ckcn_40 ckpt_40 4000 ckce_40_0 = true := by decide +kernel
theorem ckco_40 : ck_CO ckcn_40 := ck_con (tab := cktb_40) (pats := ckpt_40) (List.forall_mem_cons.mpr ⟨ckco_18, (List.forall_mem_cons.mpr ⟨ckco_34, (List.forall_mem_cons.mpr ⟨ckco_39, (fun _ h => absurd h List.not_mem_nil)⟩)⟩)⟩) ckie_40 (fun _ h => absurd h List.not_mem_nil)
def ckpt_41 : List ck_Pt := []
def cktb_41 : List ck_Co := [ckcn_18]
def ckce_41_0 : List Nat := [1, 1, 18, 18, 0, 1, 0, 0, 1, 0, 2, 1, 2, 2, 0, 0, 0, 10, 0, 46, 1, 1, 3, 4, 0, 1, 1, 3, 6, 0, 3, 0, 2, 0, 1, 6, 2, 0, 1, 5, 2, 0, 4, 0, 4, 4, 0, 1, 0, 1, 7, 2, 0, 14, 0, 20, 0, 2, 1, 3, 2, 0, 0, 4, 1, 2, 2, 1, 0, 2, 2, 0, 0, 18, 1, 3, 2, 0, 0, 4, 0, 1, 4, 0, 0, 36, 1, 1, 3, 6, 0, 3, 0, 2, 0, 1, 11, 2, 0, 1, 5, 2, 0, 4, 0, 4, 4, 0, 1, 0, 1, 12, 2, 0, 14, 0, 20, 0, 2, 1, 3, 2, 0, 0, 4, 1, 2, 2, 1, 0, 2, 4, 0, 0, 18, 1, 3, 2, 0, 0, 4, 0, 1, 4, 0, 0, 36, 1, 1, 3, 6, 0, 3, 0, 2, 0, 1, 16, 2, 0, 1, 5, 2, 0, 4, 0, 4, 4, 0, 1, 0, 1, 17, 2, 0, 14, 0, 20, 0, 2, 1, 3, 2, 0, 0, 4, 1, 2, 2, 1, 0, 2, 6, 0, 0, 18, 1, 3, 2, 0, 0, 4, 0, 1, 4, 0, 0, 36, 1, 1, 3, 6, 0, 3, 0, 2, 0, 1, 21, 2, 0, 1, 5, 2, 0, 4, 0, 4, 4, 0, 1, 0, 1, 22, 2, 0, 29, 0, 2, 1, 3, 2, 0, 0, 4, 1, 2, 2, 1, 0, 2, 8, 0, 0, 18, 1, 3, 2, 0, 0, 4, 0, 1, 4, 0, 0, 7, 0, 2, 4, 0, 1, 0, 1, 3, 2, 0, 9, 4, 0, 1, 4, 0, 0, 10, 0, 46, 1, 1, 3, 4, 0, 1, 1, 3, 6, 0, 3, 0, 2, 0, 1, 6, 2, 0, 1, 5, 2, 0, 4, 0, 4, 4, 0, 1, 0, 1, 7, 2, 0, 14, 0, 20, 0, 2, 1, 3, 2, 0, 0, 4, 1, 2, 2, 1, 0, 2, 2, 0, 0, 18, 1, 3, 2, 0, 0, 4, 0, 1, 4, 0, 0, 36, 1, 1, 3, 6, 0, 3, 0, 2, 0, 1, 11, 2, 0, 1, 5, 2, 0, 4, 0, 4, 4, 0, 1, 0, 1, 12, 2, 0, 14, 0, 20, 0, 2, 1, 3, 2, 0, 0, 4, 1, 2, 2, 1, 0, 2, 4, 0, 0, 18, 1, 3, 2, 0, 0, 4, 0, 1, 4, 0, 0, 36, 1, 1, 3, 6, 0, 3, 0, 2, 0, 1, 16, 2, 0, 1, 5, 2, 0, 4, 0, 4, 4, 0, 1, 0, 1, 17, 2, 0, 14, 0, 20, 0, 2, 1, 3, 2, 0, 0, 4, 1, 2, 2, 1, 0, 2, 6, 0, 0, 18, 1, 3, 2, 0, 0, 4, 0, 1, 4, 0, 0, 36, 1, 1, 3, 6, 0, 3, 0, 2, 0, 1, 21, 2, 0, 1, 5, 2, 0, 4, 0, 4, 4, 0, 1, 0, 1, 22, 2, 0, 29, 0, 2, 1, 3, 2, 0, 0, 4, 1, 2, 2, 1, 0, 2, 8, 0, 0, 18, 1, 3, 2, 0, 0, 4, 0, 1, 4, 0, 0, 7, 0, 2, 4, 0, 1, 0, 1, 3, 2, 0, 9, 4, 0, 1, 4, 0, 1, 2, 2, 0, 0, 0, 5, 0, 7, 0, 2, 4, 0, 1, 0, 1, 2, 2, 0, 9, 4, 0, 1, 4, 0, 0, 5, 0, 46, 1, 1, 3, 4, 0, 1, 1, 3, 6, 0, 3, 0, 2, 0, 1, 6, 2, 0, 1, 5, 2, 0, 4, 0, 4, 4, 0, 1, 0, 1, 7, 2, 0, 14, 0, 20, 0, 2, 1, 3, 2, 0, 0, 4, 1, 2, 2, 1, 0, 2, 0, 1, 1, 2, 0, 18, 1, 3, 2, 0, 0, 4, 0, 1, 4, 0, 0, 36, 1, 1, 3, 6, 0, 3, 0, 2, 0, 1, 11, 2, 0, 1, 5, 2, 0, 4, 0, 4, 4, 0, 1, 0, 1, 12, 2, 0, 14, 0, 20, 0, 2, 1, 3, 2, 0, 0, 4, 1, 2, 2, 1, 0, 2, 0, 1, 1, 2, 0, 18, 1, 3, 2, 0, 0, 4, 0, 1, 4, 0, 0, 36, 1, 1, 3, 6, 0, 3, 0, 2, 0, 1, 16, 2, 0, 1, 5, 2, 0, 4, 0, 4, 4, 0, 1, 0, 1, 17, 2, 0, 14, 0, 20, 0, 2, 1, 3, 2, 0, 0, 4, 1, 2, 2, 1, 0, 2, 0, 1, 1, 2, 0, 18, 1, 3, 2, 0, 0, 4, 0, 1, 4, 0, 0, 36, 1, 1, 3, 6, 0, 3, 0, 2, 0, 1, 21, 2, 0, 1, 5, 2, 0, 4, 0, 4, 4, 0, 1, 0, 1, 22, 2, 0, 29, 0, 2, 1, 3, 2, 0, 0, 4, 1, 2, 2, 1, 0, 2, 0, 1, 1, 2, 0, 18, 1, 3, 2, 0, 0, 4, 0, 1, 4, 0, 0, 7, 0, 2, 4, 0, 1, 0, 1, 3, 2, 0, 9, 4, 0, 1, 4, 0]
set_option maxRecDepth 1000000 in
theorem ckie_41 : ck_in0 cktb_41 ckcn_41 ckpt_41 4000 ckce_41_0 = true := by decide +kernel
theorem ckco_41 : ck_CO ckcn_41 := ck_con (tab := cktb_41) (pats := ckpt_41) (List.forall_mem_cons.mpr ⟨ckco_18, (fun _ h => absurd h List.not_mem_nil)⟩) ckie_41 (fun _ h => absurd h List.not_mem_nil)
def ckpt_42 : List ck_Pt := [(((4, [(0, .ofNat 0, .ofNat 7), (1, .ofNat 0, .ofNat 1600), (2, .negSucc 9223372036854775807, .ofNat 9223372036854775807), (3, .ofNat 0, .ofNat 0)], [], [(18, (.ofNat 6, []), (.ofNat 1, [(0, .ofNat 1)])), (23, (.ofNat 0, [(0, .ofNat 1)]), (.ofNat 0, [(2, .ofNat 1)])), (3, (.ofNat 8, []), (.ofNat 0, [(3, .ofNat 1)])), (3, (.ofNat 2, []), (.ofNat 0, [(1, .ofNat 1)])), (2, (.ofNat 1, []), (.ofNat 18, [])), (3, (.ofNat 1, []), (.ofNat 1, []))], [(2, (.ofNat 0, []), (.ofNat 0, []))]), 85, [(0, (2, (.ofNat 2, []))), (3, (0, (.ofNat 1, []))), (4, (0, (.ofNat 0, [])))], []), (.ofNat 10000000, [])), (((7, [(0, .ofNat 0, .ofNat 7), (1, .ofNat 0, .ofNat 1600), (2, .negSucc 9223372036854775807, .ofNat 9223372036854775807), (3, .ofNat 0, .ofNat 0), (4, .ofNat 1, .ofNat 4), (5, .ofNat 0, .ofNat 1), (6, .ofNat 0, .ofNat 29)], [], [(18, (.ofNat 6, []), (.ofNat 1, [(0, .ofNat 1)])), (23, (.ofNat 0, [(0, .ofNat 1)]), (.ofNat 0, [(2, .ofNat 1)])), (3, (.ofNat 8, []), (.ofNat 0, [(3, .ofNat 1)])), (3, (.ofNat 2, []), (.ofNat 0, [(1, .ofNat 1)])), (2, (.ofNat 1, []), (.ofNat 18, [])), (3, (.ofNat 1, []), (.ofNat 1, [])), (25, (.ofNat 0, []), (.ofNat 0, [(4, .ofNat 1)]))], []), 85, [(0, (2, (.ofNat 2, []))), (3, (0, (.ofNat 0, [(5, .ofNat 1)]))), (4, (0, (.ofNat 0, [(6, .ofNat 1)])))], []), (.ofNat 10000000, [(6, .negSucc 0)]))]
def cktb_42 : List ck_Co := [ckcn_18, ckcn_34, ckcn_41]
def ckce_42_0 : List Nat := [0, 6, 0, 11, 0, 5, 4, 0, 1, 0, 1, 1, 2, 0, 12, 4, 0, 1, 4, 0, 0, 17, 1, 1, 3, 4, 0, 1, 1, 3, 6, 0, 3, 0, 2, 0, 1, 3, 2, 0, 1, 2, 2, 0, 4, 0, 6, 4, 0, 1, 0, 1, 4, 2, 0, 17, 0, 8, 0, 2, 1, 1, 3, 6, 0, 3, 0, 2, 0, 1, 7, 2, 0, 1, 2, 2, 0, 4, 0, 5, 4, 0, 1, 0, 1, 8, 2, 0, 13, 0, 2, 1, 1, 3, 6, 0, 3, 0, 2, 0, 1, 10, 2, 0, 1, 2, 2, 0, 4, 0, 4, 4, 0, 1, 0, 1, 11, 2, 0, 23, 2, 0, 4, 0, 1, 0, 2, 0, 1, 2, 2, 0, 1, 5, 2, 0, 1, 11, 2, 0, 19, 4, 0, 1, 4, 0, 0, 20, 4, 0, 1, 4, 0, 0, 5, 3, 1, 1, 0, 1, 5, 2, 0, 21, 4, 0, 1, 6, 0, 0, 12, 1, 1, 3, 6, 0, 3, 0, 2, 0, 1, 7, 2, 0, 1, 2, 2, 0, 4, 0, 5, 4, 0, 1, 0, 1, 8, 2, 0, 13, 0, 2, 1, 1, 3, 6, 0, 3, 0, 2, 0, 1, 10, 2, 0, 1, 2, 2, 0, 4, 0, 4, 4, 0, 1, 0, 1, 11, 2, 0, 23, 2, 0, 4, 0, 1, 0, 2, 0, 1, 2, 2, 0, 1, 5, 2, 0, 1, 11, 2, 0, 19, 4, 0, 1, 4, 0]
def ckce_42_1 : List Nat := [0, 6, 3, 2, 0, 0, 2, 4, 0, 1, 0, 1, 4, 2, 0, 6, 0, 6, 2, 1, 7, 0, 1, 0, 2, 0, 1, 1, 2, 0, 1, 2, 2, 0, 0, 0, 1, 5, 2, 0, 0, 2, 0, 0, 15, 1, 1, 3, 6, 0, 3, 0, 2, 0, 1, 7, 2, 0, 1, 1, 2, 0, 4, 0, 4, 4, 0, 1, 0, 1, 8, 2, 0, 6, 2, 1, 7, 0, 1, 0, 2, 0, 1, 1, 2, 0, 1, 2, 2, 0, 1, 8, 2, 0, 1, 5, 2, 2, 0, 2, 0]
def ckce_42_2 : List Nat := [0, 3, 0, 10, 1, 3, 0, 0, 0, 1, 3, 2, 0, 0, 0, 1, 4, 1, 2, 2, 1, 0, 2, 0, 1, 4, 2, 0, 2, 0, 10, 1, 3, 0, 0, 0, 1, 3, 2, 0, 0, 0, 1, 4, 1, 2, 2, 1, 0, 2, 0, 1, 4, 2, 1, 3, 2, 0, 0, 0, 1, 3, 2, 0, 0, 2, 4, 0, 1, 0, 1, 8, 2, 0, 6, 0, 6, 2, 1, 7, 0, 1, 0, 2, 0, 1, 1, 2, 0, 1, 2, 2, 0, 0, 0, 1, 9, 2, 0, 0, 2, 1, 6, 2, 0, 15, 1, 1, 3, 6, 0, 3, 0, 2, 0, 1, 11, 2, 0, 1, 1, 2, 0, 4, 0, 4, 4, 0, 1, 0, 1, 12, 2, 0, 6, 2, 1, 7, 0, 1, 0, 2, 0, 1, 1, 2, 0, 1, 2, 2, 0, 1, 12, 2, 0, 1, 9, 2, 2, 0, 2, 1, 6, 2]
set_option maxRecDepth 1000000 in
theorem ckie_42 : ck_in0 cktb_42 ckcn_42 ckpt_42 4000 ckce_42_0 = true := by decide +kernel
set_option maxRecDepth 1000000 in
theorem ckip_42_0 : ∀ p, ckpt_42[0]? = some p → ck_inP cktb_42 ckcn_42 ckpt_42 4000 p ckce_42_1 = true := by
  intro p hp
  cases hp
  decide +kernel
set_option maxRecDepth 1000000 in
theorem ckip_42_1 : ∀ p, ckpt_42[1]? = some p → ck_inP cktb_42 ckcn_42 ckpt_42 4000 p ckce_42_2 = true := by
  intro p hp
  cases hp
  decide +kernel
theorem ckco_42 : ck_CO ckcn_42 := ck_con (tab := cktb_42) (pats := ckpt_42) (List.forall_mem_cons.mpr ⟨ckco_18, (List.forall_mem_cons.mpr ⟨ckco_34, (List.forall_mem_cons.mpr ⟨ckco_41, (fun _ h => absurd h List.not_mem_nil)⟩)⟩)⟩) ckie_42 (List.forall_mem_cons.mpr ⟨⟨4000, ckce_42_1, ckip_42_0 _ rfl⟩, (List.forall_mem_cons.mpr ⟨⟨4000, ckce_42_2, ckip_42_1 _ rfl⟩, (fun _ h => absurd h List.not_mem_nil)⟩)⟩)
def ckpt_43 : List ck_Pt := [(((5, [(0, .ofNat 0, .ofNat 6), (1, .ofNat 0, .ofNat 1600), (2, .ofNat 0, .ofNat 0), (3, .ofNat 0, .ofNat 11), (4, .ofNat 0, .ofNat 6)], [], [(3, (.ofNat 5, []), (.ofNat 0, [(3, .ofNat 1)])), (3, (.ofNat 8, []), (.ofNat 0, [(2, .ofNat 1)])), (3, (.ofNat 2, []), (.ofNat 0, [(1, .ofNat 1)])), (18, (.ofNat 14, []), (.ofNat 0, [(0, .ofNat 1)])), (2, (.ofNat 1, []), (.ofNat 18, [])), (3, (.ofNat 1, []), (.ofNat 1, []))], []), 44, [(0, (2, (.ofNat 2, []))), (1, (0, (.ofNat 0, [(4, .ofNat 1)])))], []), (.ofNat 10000000, [(4, .negSucc 0)]))]
def cktb_43 : List ck_Co := [ckcn_18]
def ckce_43_0 : List Nat := [0, 5, 0, 11, 0, 13, 4, 0, 1, 0, 1, 1, 2, 0, 20, 4, 0, 1, 4, 0, 0, 17, 1, 1, 3, 4, 0, 1, 1, 3, 6, 0, 3, 0, 2, 0, 1, 3, 2, 0, 1, 2, 2, 0, 4, 0, 14, 4, 0, 1, 0, 1, 4, 2, 0, 11, 0, 2, 2, 0, 5, 0, 1, 0, 2, 0, 1, 2, 2, 0, 1, 4, 2, 0, 1, 5, 2, 0, 0, 0, 16, 4, 0, 1, 4, 0]
def ckce_43_1 : List Nat := [0, 3, 0, 1, 4, 1, 0, 0, 5, 0, 1, 4, 1, 0, 0, 18, 0, 19, 4, 0, 1, 8, 0, 0, 5, 0, 2, 1, 1, 3, 6, 0, 3, 0, 2, 0, 1, 6, 2, 0, 1, 1, 2, 0, 4, 0, 4, 4, 0, 1, 0, 1, 7, 2, 0, 18, 1, 1, 3, 10, 0, 2, 0, 5, 2, 1, 4, 2, 0, 1, 1, 2, 0, 1, 7, 2, 0, 1, 8, 2, 2, 1, 4, 2, 0, 19, 4, 0, 1, 8, 0]
set_option maxRecDepth 1000000 in
theorem ckie_43 : ck_in0 cktb_43 ckcn_43 ckpt_43 4000 ckce_43_0 = true := by decide +kernel
set_option maxRecDepth 1000000 in
theorem ckip_43_0 : ∀ p, ckpt_43[0]? = some p → ck_inP cktb_43 ckcn_43 ckpt_43 4000 p ckce_43_1 = true := by
  intro p hp
  cases hp
  decide +kernel
theorem ckco_43 : ck_CO ckcn_43 := ck_con (tab := cktb_43) (pats := ckpt_43) (List.forall_mem_cons.mpr ⟨ckco_18, (fun _ h => absurd h List.not_mem_nil)⟩) ckie_43 (List.forall_mem_cons.mpr ⟨⟨4000, ckce_43_1, ckip_43_0 _ rfl⟩, (fun _ h => absurd h List.not_mem_nil)⟩)
