/-! Contracts checked, 3. -/
def ckpt_185 : List ck_Pt := [(((3, [(0, .ofNat 0, .ofNat 2), (1, .ofNat 0, .ofNat 3000), (2, .ofNat 1, .ofNat 8)], [], [(87, (.ofNat 0, []), (.ofNat 0, [])), (0, (.ofNat 3, []), (.ofNat 28, [])), (0, (.ofNat 4, []), (.ofNat 18, [])), (70, (.ofNat 0, []), (.ofNat 0, [(1, .ofNat 1)]))], [(6, (.ofNat 0, []), (.ofNat 0, [(1, .ofNat 1)])), (1, (.ofNat 0, []), (.ofNat 0, []))]), 9, [(0, (2, (.ofNat 0, []))), (1, (2, (.ofNat 70, []))), (2, (0, (.ofNat 0, [(0, .ofNat 1)]))), (3, (0, (.ofNat 0, [(2, .ofNat 1)])))], []), (.ofNat 20000000001000000000, [(2, .negSucc 999999999999)])), (((4, [(0, .ofNat 0, .ofNat 2), (1, .ofNat 0, .ofNat 3000), (2, .negSucc 2147483647, .ofNat 2147483647), (3, .ofNat 0, .ofNat 6)], [], [(87, (.ofNat 0, []), (.ofNat 0, [])), (0, (.ofNat 3, []), (.ofNat 28, [])), (0, (.ofNat 4, []), (.ofNat 18, [])), (70, (.ofNat 0, []), (.ofNat 0, [(1, .ofNat 1)]))], [(6, (.ofNat 0, []), (.ofNat 0, [(1, .ofNat 1)])), (1, (.ofNat 0, []), (.ofNat 0, []))]), 41, [(0, (2, (.ofNat 0, []))), (2, (0, (.ofNat 0, [(0, .ofNat 1)]))), (3, (0, (.ofNat 0, [(2, .ofNat 1)]))), (4, (0, (.ofNat 0, [(3, .ofNat 1)])))], []), (.ofNat 10000000001000000000, [(3, .negSucc 999999999999)])), (((6, [(0, .ofNat 0, .ofNat 2), (1, .ofNat 0, .ofNat 3000), (2, .negSucc 2147483647, .ofNat 2147483647), (3, .ofNat 0, .ofNat 5), (4, .ofNat 0, .ofNat 7), (5, .ofNat 0, .ofNat 3)], [], [(87, (.ofNat 0, []), (.ofNat 0, [])), (0, (.ofNat 3, []), (.ofNat 28, [])), (0, (.ofNat 4, []), (.ofNat 18, [])), (70, (.ofNat 0, []), (.ofNat 0, [(1, .ofNat 1)]))], [(6, (.ofNat 0, []), (.ofNat 0, [(1, .ofNat 1)])), (1, (.ofNat 0, []), (.ofNat 0, []))]), 54, [(0, (2, (.ofNat 0, []))), (2, (0, (.ofNat 0, [(0, .ofNat 1)]))), (3, (0, (.ofNat 0, [(2, .ofNat 1)]))), (4, (0, (.ofNat 0, [(3, .ofNat 1)]))), (5, (0, (.ofNat 0, [(4, .ofNat 1)]))), (6, (0, (.ofNat 0, [(5, .ofNat 1)])))], []), (.ofNat 10000000000010000000, [(3, .negSucc 999999999999), (5, .negSucc 0)]))]
def cktb_185 : List ck_Co := [ckcn_177]
def ckce_185_0 : List Nat := [0, 7, 2, 0, 3, 0, 1, 0, 2, 0, 1, 1, 2, 2, 0]
def ckce_185_1 : List Nat := [0, 3, 0, 4, 2, 1, 4, 0, 1, 0, 2, 0, 1, 1, 2, 0, 0, 0, 0, 0, 7, 3, 0, 2, 0, 1, 2, 2, 0, 1, 1, 2, 0, 3, 2, 0, 3, 0, 1, 0, 2, 0, 1, 1, 2, 2, 1, 2, 2]
def ckce_185_2 : List Nat := [0, 3, 0, 1, 4, 0, 3, 0, 1, 0, 2, 0, 1, 1, 2, 0, 1, 2, 2, 0, 4, 2, 2, 6, 0, 1, 0, 2, 0, 1, 1, 2, 0, 1, 2, 2, 0, 1, 3, 2, 0, 0, 0, 0]
def ckce_185_3 : List Nat := [0, 3, 0, 18, 2, 1, 4, 0, 1, 0, 2, 0, 1, 1, 2, 0, 1, 11, 2, 2, 1, 3, 2, 0, 9, 0, 18, 2, 1, 4, 0, 1, 0, 2, 0, 1, 1, 2, 0, 1, 12, 2, 2, 1, 3, 2, 0, 14, 2, 2, 6, 0, 1, 0, 2, 0, 1, 1, 2, 0, 1, 2, 2, 0, 1, 3, 2, 0, 1, 9, 2, 2, 1, 5, 2]
set_option maxRecDepth 1000000 in
theorem ckie_185 : ck_in0 cktb_185 ckcn_185 ckpt_185 4000 ckce_185_0 = true := by decide +kernel
set_option maxRecDepth 1000000 in
theorem ckip_185_0 : ∀ p, ckpt_185[0]? = some p → ck_inP cktb_185 ckcn_185 ckpt_185 4000 p ckce_185_1 = true := by
  intro p hp
  cases hp
  decide +kernel
set_option maxRecDepth 1000000 in
theorem ckip_185_1 : ∀ p, ckpt_185[1]? = some p → ck_inP cktb_185 ckcn_185 ckpt_185 4000 p ckce_185_2 = true := by
  intro p hp
  cases hp
  decide +kernel
set_option maxRecDepth 1000000 in
theorem ckip_185_2 : ∀ p, ckpt_185[2]? = some p → ck_inP cktb_185 ckcn_185 ckpt_185 4000 p ckce_185_3 = true := by
  intro p hp
  cases hp
  decide +kernel
theorem ckco_185 : ck_CO ckcn_185 := ck_con (tab := cktb_185) (pats := ckpt_185) (List.forall_mem_cons.mpr ⟨ckco_177, (fun _ h => absurd h List.not_mem_nil)⟩) ckie_185 (List.forall_mem_cons.mpr ⟨⟨4000, ckce_185_1, ckip_185_0 _ rfl⟩, (List.forall_mem_cons.mpr ⟨⟨4000, ckce_185_2, ckip_185_1 _ rfl⟩, (List.forall_mem_cons.mpr ⟨⟨4000, ckce_185_3, ckip_185_2 _ rfl⟩, (fun _ h => absurd h List.not_mem_nil)⟩)⟩)⟩)
def ckpt_186 : List ck_Pt := [(((3, [(0, .ofNat 0, .ofNat 2), (1, .ofNat 0, .ofNat 3000), (2, .ofNat 1, .ofNat 8)], [], [(87, (.ofNat 0, []), (.ofNat 0, [])), (0, (.ofNat 3, []), (.ofNat 28, [])), (0, (.ofNat 4, []), (.ofNat 18, [])), (65, (.ofNat 0, []), (.ofNat 0, [(1, .ofNat 1)]))], [(5, (.ofNat 0, []), (.ofNat 0, [(1, .ofNat 1)])), (1, (.ofNat 0, []), (.ofNat 0, []))]), 9, [(0, (2, (.ofNat 0, []))), (1, (2, (.ofNat 65, []))), (2, (0, (.ofNat 0, [(0, .ofNat 1)]))), (3, (0, (.ofNat 0, [(2, .ofNat 1)])))], []), (.ofNat 20000000001000000000, [(2, .negSucc 999999999999)])), (((4, [(0, .ofNat 0, .ofNat 2), (1, .ofNat 0, .ofNat 3000), (2, .negSucc 2147483647, .ofNat 2147483647), (3, .ofNat 0, .ofNat 6)], [], [(87, (.ofNat 0, []), (.ofNat 0, [])), (0, (.ofNat 3, []), (.ofNat 28, [])), (0, (.ofNat 4, []), (.ofNat 18, [])), (65, (.ofNat 0, []), (.ofNat 0, [(1, .ofNat 1)]))], [(5, (.ofNat 0, []), (.ofNat 0, [(1, .ofNat 1)])), (1, (.ofNat 0, []), (.ofNat 0, []))]), 41, [(0, (2, (.ofNat 0, []))), (2, (0, (.ofNat 0, [(0, .ofNat 1)]))), (3, (0, (.ofNat 0, [(2, .ofNat 1)]))), (4, (0, (.ofNat 0, [(3, .ofNat 1)])))], []), (.ofNat 10000000001000000000, [(3, .negSucc 999999999999)])), (((6, [(0, .ofNat 0, .ofNat 2), (1, .ofNat 0, .ofNat 3000), (2, .negSucc 2147483647, .ofNat 2147483647), (3, .ofNat 0, .ofNat 5), (4, .ofNat 0, .ofNat 7), (5, .ofNat 0, .ofNat 3)], [], [(87, (.ofNat 0, []), (.ofNat 0, [])), (0, (.ofNat 3, []), (.ofNat 28, [])), (0, (.ofNat 4, []), (.ofNat 18, [])), (65, (.ofNat 0, []), (.ofNat 0, [(1, .ofNat 1)]))], [(5, (.ofNat 0, []), (.ofNat 0, [(1, .ofNat 1)])), (1, (.ofNat 0, []), (.ofNat 0, []))]), 54, [(0, (2, (.ofNat 0, []))), (2, (0, (.ofNat 0, [(0, .ofNat 1)]))), (3, (0, (.ofNat 0, [(2, .ofNat 1)]))), (4, (0, (.ofNat 0, [(3, .ofNat 1)]))), (5, (0, (.ofNat 0, [(4, .ofNat 1)]))), (6, (0, (.ofNat 0, [(5, .ofNat 1)])))], []), (.ofNat 10000000000010000000, [(3, .negSucc 999999999999), (5, .negSucc 0)]))]
def cktb_186 : List ck_Co := [ckcn_179]
def ckce_186_0 : List Nat := [0, 7, 2, 0, 3, 0, 1, 0, 2, 0, 1, 1, 2, 2, 0]
def ckce_186_1 : List Nat := [0, 3, 0, 4, 2, 1, 4, 0, 1, 0, 2, 0, 1, 1, 2, 0, 0, 0, 0, 0, 7, 3, 0, 2, 0, 1, 2, 2, 0, 1, 1, 2, 0, 3, 2, 0, 3, 0, 1, 0, 2, 0, 1, 1, 2, 2, 1, 2, 2]
def ckce_186_2 : List Nat := [0, 3, 0, 1, 4, 0, 3, 0, 1, 0, 2, 0, 1, 1, 2, 0, 1, 2, 2, 0, 4, 2, 2, 6, 0, 1, 0, 2, 0, 1, 1, 2, 0, 1, 2, 2, 0, 1, 3, 2, 0, 0, 0, 0]
def ckce_186_3 : List Nat := [0, 3, 0, 18, 2, 1, 4, 0, 1, 0, 2, 0, 1, 1, 2, 0, 1, 11, 2, 2, 1, 3, 2, 0, 9, 0, 18, 2, 1, 4, 0, 1, 0, 2, 0, 1, 1, 2, 0, 1, 12, 2, 2, 1, 3, 2, 0, 14, 2, 2, 6, 0, 1, 0, 2, 0, 1, 1, 2, 0, 1, 2, 2, 0, 1, 3, 2, 0, 1, 9, 2, 2, 1, 5, 2]
set_option maxRecDepth 1000000 in
theorem ckie_186 : ck_in0 cktb_186 ckcn_186 ckpt_186 4000 ckce_186_0 = true := by decide +kernel
set_option maxRecDepth 1000000 in
theorem ckip_186_0 : ∀ p, ckpt_186[0]? = some p → ck_inP cktb_186 ckcn_186 ckpt_186 4000 p ckce_186_1 = true := by
  intro p hp
  cases hp
  decide +kernel
set_option maxRecDepth 1000000 in
theorem ckip_186_1 : ∀ p, ckpt_186[1]? = some p → ck_inP cktb_186 ckcn_186 ckpt_186 4000 p ckce_186_2 = true := by
  intro p hp
  cases hp
  decide +kernel
set_option maxRecDepth 1000000 in
theorem ckip_186_2 : ∀ p, ckpt_186[2]? = some p → ck_inP cktb_186 ckcn_186 ckpt_186 4000 p ckce_186_3 = true := by
  intro p hp
  cases hp
  decide +kernel
theorem ckco_186 : ck_CO ckcn_186 := ck_con (tab := cktb_186) (pats := ckpt_186) (List.forall_mem_cons.mpr ⟨ckco_179, (fun _ h => absurd h List.not_mem_nil)⟩) ckie_186 (List.forall_mem_cons.mpr ⟨⟨4000, ckce_186_1, ckip_186_0 _ rfl⟩, (List.forall_mem_cons.mpr ⟨⟨4000, ckce_186_2, ckip_186_1 _ rfl⟩, (List.forall_mem_cons.mpr ⟨⟨4000, ckce_186_3, ckip_186_2 _ rfl⟩, (fun _ h => absurd h List.not_mem_nil)⟩)⟩)⟩)
def ckpt_187 : List ck_Pt := []
def cktb_187 : List ck_Co := [ckcn_170, ckcn_171, ckcn_185, ckcn_186]
def ckce_187_0 : List Nat := [0, 1, 3, 0, 3, 0, 1, 2, 2, 0, 1, 3, 2, 0, 1, 4, 2, 0, 5, 0, 4, 4, 0, 8, 0, 1, 0, 2, 0, 1, 1, 2, 0, 1, 2, 2, 0, 1, 3, 2, 0, 1, 4, 2, 1999999, 0, 0, 1, 6, 2, 0, 1, 7, 2, 0, 3, 0, 4, 4, 0, 8, 0, 1, 0, 2, 0, 1, 1, 2, 0, 1, 2, 2, 0, 1, 3, 2, 0, 1, 4, 2, 1999999, 0, 0, 1, 6, 2, 0, 1, 7, 2, 0, 6, 0, 1, 4, 0, 8, 0, 1, 0, 2, 0, 1, 1, 2, 0, 1, 2, 2, 0, 1, 3, 2, 0, 1, 4, 2, 1999999, 0, 0, 1, 6, 2, 0, 1, 7, 2, 0, 3, 0, 1, 4, 0, 8, 0, 1, 0, 2, 0, 1, 1, 2, 0, 1, 2, 2, 0, 1, 3, 2, 0, 1, 4, 2, 1999999, 0, 0, 1, 6, 2, 0, 1, 7, 2, 0, 5, 0, 4, 4, 0, 8, 0, 1, 0, 2, 0, 1, 1, 2, 0, 1, 2, 2, 0, 1, 3, 2, 0, 1, 4, 2, 1999999, 0, 0, 1, 6, 2, 0, 1, 7, 2, 0, 3, 0, 4, 4, 0, 8, 0, 1, 0, 2, 0, 1, 1, 2, 0, 1, 2, 2, 0, 1, 3, 2, 0, 1, 4, 2, 1999999, 0, 0, 1, 6, 2, 0, 1, 7, 2, 0, 5, 3, 1, 0, 0, 3, 3, 2, 2, 0, 1, 0, 2, 0, 1, 7, 2, 0, 5, 0, 4, 0, 4, 0, 4, 0, 3, 4, 0, 8, 0, 1, 0, 2, 0, 1, 1, 2, 0, 1, 2, 2, 0, 1, 3, 2, 0, 1, 4, 2, 12, 0, 0, 1, 6, 2, 0, 1, 7, 2, 0, 4, 4, 0, 8, 0, 1, 0, 2, 0, 1, 1, 2, 0, 1, 2, 2, 0, 1, 3, 2, 0, 1, 4, 2, 0, 1, 13, 2, 0, 1, 6, 2, 0, 1, 7, 2, 0, 5, 0, 3, 4, 0, 8, 0, 1, 0, 2, 0, 1, 1, 2, 0, 1, 2, 2, 0, 1, 3, 2, 0, 1, 4, 2, 6, 0, 0, 1, 6, 2, 0, 1, 7, 2, 0, 4, 4, 0, 8, 0, 1, 0, 2, 0, 1, 1, 2, 0, 1, 2, 2, 0, 1, 3, 2, 0, 1, 4, 2, 0, 1, 13, 2, 0, 1, 6, 2, 0, 1, 7, 2, 0, 5, 0, 3, 4, 0, 8, 0, 1, 0, 2, 0, 1, 1, 2, 0, 1, 2, 2, 0, 1, 3, 2, 0, 1, 4, 2, 4, 0, 0, 1, 6, 2, 0, 1, 7, 2, 0, 4, 4, 0, 8, 0, 1, 0, 2, 0, 1, 1, 2, 0, 1, 2, 2, 0, 1, 3, 2, 0, 1, 4, 2, 0, 1, 12, 2, 0, 1, 6, 2, 0, 1, 7, 2, 0, 5, 0, 3, 4, 0, 8, 0, 1, 0, 2, 0, 1, 1, 2, 0, 1, 2, 2, 0, 1, 3, 2, 0, 1, 4, 2, 2, 0, 0, 1, 6, 2, 0, 1, 7, 2, 0, 4, 4, 0, 8, 0, 1, 0, 2, 0, 1, 1, 2, 0, 1, 2, 2, 0, 1, 3, 2, 0, 1, 4, 2, 0, 1, 11, 2, 0, 1, 6, 2, 0, 1, 7, 2, 0, 5, 0, 4, 4, 0, 8, 0, 1, 0, 2, 0, 1, 1, 2, 0, 1, 2, 2, 0, 1, 3, 2, 0, 1, 4, 2, 1999999, 0, 0, 1, 5, 2, 0, 1, 6, 2, 0, 3, 0, 4, 4, 0, 8, 0, 1, 0, 2, 0, 1, 1, 2, 0, 1, 2, 2, 0, 1, 3, 2, 0, 1, 4, 2, 1999999, 0, 0, 1, 5, 2, 0, 1, 6, 2, 0, 6, 0, 1, 4, 0, 8, 0, 1, 0, 2, 0, 1, 1, 2, 0, 1, 2, 2, 0, 1, 3, 2, 0, 1, 4, 2, 1999999, 0, 0, 1, 5, 2, 0, 1, 6, 2, 0, 3, 0, 1, 4, 0, 8, 0, 1, 0, 2, 0, 1, 1, 2, 0, 1, 2, 2, 0, 1, 3, 2, 0, 1, 4, 2, 1999999, 0, 0, 1, 5, 2, 0, 1, 6, 2, 0, 5, 0, 4, 4, 0, 8, 0, 1, 0, 2, 0, 1, 1, 2, 0, 1, 2, 2, 0, 1, 3, 2, 0, 1, 4, 2, 1999999, 0, 0, 1, 5, 2, 0, 1, 6, 2, 0, 3, 0, 4, 4, 0, 8, 0, 1, 0, 2, 0, 1, 1, 2, 0, 1, 2, 2, 0, 1, 3, 2, 0, 1, 4, 2, 1999999, 0, 0, 1, 5, 2, 0, 1, 6, 2, 0, 5, 3, 1, 0, 0, 3, 3, 3, 2, 0, 1, 0, 2, 0, 1, 5, 2, 0, 5, 0, 4, 0, 4, 0, 4, 0, 3, 4, 0, 8, 0, 1, 0, 2, 0, 1, 1, 2, 0, 1, 2, 2, 0, 1, 3, 2, 0, 1, 4, 2, 12, 0, 0, 1, 5, 2, 0, 1, 6, 2, 0, 4, 4, 0, 8, 0, 1, 0, 2, 0, 1, 1, 2, 0, 1, 2, 2, 0, 1, 3, 2, 0, 1, 4, 2, 0, 1, 12, 2, 0, 1, 5, 2, 0, 1, 6, 2, 0, 5, 0, 3, 4, 0, 8, 0, 1, 0, 2, 0, 1, 1, 2, 0, 1, 2, 2, 0, 1, 3, 2, 0, 1, 4, 2, 6, 0, 0, 1, 5, 2, 0, 1, 6, 2, 0, 4, 4, 0, 8, 0, 1, 0, 2, 0, 1, 1, 2, 0, 1, 2, 2, 0, 1, 3, 2, 0, 1, 4, 2, 0, 1, 12, 2, 0, 1, 5, 2, 0, 1, 6, 2, 0, 5, 0, 3, 4, 0, 8, 0, 1, 0, 2, 0, 1, 1, 2, 0, 1, 2, 2, 0, 1, 3, 2, 0, 1, 4, 2, 4, 0, 0, 1, 5, 2, 0, 1, 6, 2, 0, 4, 4, 0, 8, 0, 1, 0, 2, 0, 1, 1, 2, 0, 1, 2, 2, 0, 1, 3, 2, 0, 1, 4, 2, 0, 1, 11, 2, 0, 1, 5, 2, 0, 1, 6, 2, 0, 5, 0, 3, 4, 0, 8, 0, 1, 0, 2, 0, 1, 1, 2, 0, 1, 2, 2, 0, 1, 3, 2, 0, 1, 4, 2, 2, 0, 0, 1, 5, 2, 0, 1, 6, 2, 0, 4, 4, 0, 8, 0, 1, 0, 2, 0, 1, 1, 2, 0, 1, 2, 2, 0, 1, 3, 2, 0, 1, 4, 2, 0, 1, 10, 2, 0, 1, 5, 2, 0, 1, 6, 2]
set_option maxRecDepth 1000000 in
theorem ckie_187 : ck_in0 cktb_187 ckcn_187 ckpt_187 4000 ckce_187_0 = true := by decide +kernel
theorem ckco_187 : ck_CO ckcn_187 := ck_con (tab := cktb_187) (pats := ckpt_187) (List.forall_mem_cons.mpr ⟨ckco_170, (List.forall_mem_cons.mpr ⟨ckco_171, (List.forall_mem_cons.mpr ⟨ckco_185, (List.forall_mem_cons.mpr ⟨ckco_186, (fun _ h => absurd h List.not_mem_nil)⟩)⟩)⟩)⟩) ckie_187 (fun _ h => absurd h List.not_mem_nil)
def ckpt_188 : List ck_Pt := [(((5, [(0, .ofNat 0, .ofNat 6), (1, .ofNat 1, .ofNat 3000), (2, .ofNat 0, .ofNat 2999), (3, .negSucc 0, .ofNat 2999), (4, .ofNat 0, .ofNat 6)], [], [(63, (.ofNat 0, []), (.ofNat 0, [(3, .ofNat 1)])), (70, (.ofNat 0, []), (.ofNat 0, [(1, .ofNat 1)]))], [(6, (.ofNat 0, []), (.ofNat 0, [(1, .ofNat 1)]))]), 9, [(0, (2, (.ofNat 61, []))), (1, (2, (.ofNat 70, []))), (3, (0, (.ofNat 0, [(2, .ofNat 1)]))), (4, (0, (.ofNat 0, [(4, .ofNat 1)])))], []), (.ofNat 10000000001000000000, [(4, .negSucc 999999999999)])), (((7, [(0, .ofNat 0, .ofNat 6), (1, .ofNat 1, .ofNat 3000), (2, .ofNat 0, .ofNat 2999), (3, .negSucc 0, .ofNat 2999), (4, .ofNat 1, .ofNat 6), (5, .ofNat 0, .ofNat 5), (6, .ofNat 1, .ofNat 6)], [], [(70, (.ofNat 6, []), (.ofNat 0, [(4, .ofNat 1)])), (63, (.ofNat 0, []), (.ofNat 0, [(3, .ofNat 1)])), (70, (.ofNat 0, []), (.ofNat 0, [(1, .ofNat 1)]))], [(6, (.ofNat 0, []), (.ofNat 0, [(1, .ofNat 1)]))]), 24, [(0, (2, (.ofNat 61, []))), (1, (2, (.ofNat 70, []))), (3, (0, (.ofNat 0, [(2, .ofNat 1)]))), (4, (0, (.ofNat 0, [(5, .ofNat 1)]))), (5, (0, (.ofNat 0, [(6, .ofNat 1)])))], []), (.ofNat 10000000000010000000, [(5, .negSucc 999999999999), (6, .negSucc 0)]))]
def cktb_188 : List ck_Co := [ckcn_134]
def ckce_188_0 : List Nat := [0, 2, 3, 0, 1, 0, 1, 1, 2, 0, 3, 2, 0, 5, 0, 1, 0, 2, 0, 1, 1, 2, 0, 1, 2, 2, 0, 1, 3, 2, 0, 1, 0, 2, 0, 3, 2, 0, 5, 0, 1, 0, 2, 0, 1, 1, 2, 0, 0, 1, 0, 0, 1, 0, 2]
def ckce_188_1 : List Nat := [0, 4, 0, 1, 4, 0, 3, 0, 1, 0, 2, 0, 1, 1, 2, 0, 1, 3, 2, 0, 4, 2, 1, 7, 0, 1, 0, 2, 0, 1, 1, 2, 0, 1, 2, 2, 0, 1, 3, 2, 0, 1, 5, 2, 0, 1, 4, 2, 2, 1, 4, 2]
def ckce_188_2 : List Nat := [0, 4, 0, 2, 2, 0, 5, 0, 1, 0, 2, 0, 1, 1, 2, 0, 1, 2, 2, 0, 1, 3, 2, 2, 1, 5, 2, 0, 13, 0, 2, 2, 1, 7, 0, 1, 0, 2, 0, 1, 1, 2, 0, 1, 2, 2, 0, 1, 3, 2, 0, 1, 4, 2, 0, 1, 5, 2, 2, 1, 6, 2, 0, 12, 3, 0, 1, 0, 1, 1, 2, 0, 33, 0, 5, 2, 1, 7, 0, 1, 0, 2, 0, 1, 1, 2, 0, 1, 2, 2, 0, 1, 10, 2, 0, 1, 4, 2, 0, 1, 5, 2, 2, 1, 6, 2, 0, 26, 0, 5, 2, 1, 7, 0, 1, 0, 2, 0, 1, 1, 2, 0, 1, 2, 2, 0, 1, 10, 2, 0, 1, 4, 2, 0, 1, 5, 2, 2, 1, 6, 2, 0, 9, 4, 1, 5, 0, 1, 0, 2, 0, 1, 1, 2, 0, 2, 5, 20, 6, 2, 0, 1, 10, 2, 0, 1, 4, 2, 0, 33, 0, 5, 2, 1, 7, 0, 1, 0, 2, 0, 1, 1, 2, 0, 1, 2, 2, 1, 0, 0, 1, 4, 2, 0, 1, 5, 2, 2, 1, 6, 2, 0, 26, 0, 5, 2, 1, 7, 0, 1, 0, 2, 0, 1, 1, 2, 0, 1, 2, 2, 1, 0, 0, 1, 4, 2, 0, 1, 5, 2, 2, 1, 6, 2, 0, 9, 4, 1, 5, 0, 1, 0, 2, 0, 1, 1, 2, 0, 2, 5, 20, 6, 2, 1, 0, 0, 1, 4, 2]
set_option maxRecDepth 1000000 in
theorem ckie_188 : ck_in0 cktb_188 ckcn_188 ckpt_188 4000 ckce_188_0 = true := by decide +kernel
set_option maxRecDepth 1000000 in
theorem ckip_188_0 : ∀ p, ckpt_188[0]? = some p → ck_inP cktb_188 ckcn_188 ckpt_188 4000 p ckce_188_1 = true := by
  intro p hp
  cases hp
  decide +kernel
set_option maxRecDepth 1000000 in
theorem ckip_188_1 : ∀ p, ckpt_188[1]? = some p → ck_inP cktb_188 ckcn_188 ckpt_188 4000 p ckce_188_2 = true := by
  intro p hp
  cases hp
  decide +kernel
theorem ckco_188 : ck_CO ckcn_188 := ck_con (tab := cktb_188) (pats := ckpt_188) (List.forall_mem_cons.mpr ⟨ckco_134, (fun _ h => absurd h List.not_mem_nil)⟩) ckie_188 (List.forall_mem_cons.mpr ⟨⟨4000, ckce_188_1, ckip_188_0 _ rfl⟩, (List.forall_mem_cons.mpr ⟨⟨4000, ckce_188_2, ckip_188_1 _ rfl⟩, (fun _ h => absurd h List.not_mem_nil)⟩)⟩)
def ckpt_189 : List ck_Pt := [(((5, [(0, .ofNat 0, .ofNat 6), (1, .ofNat 1, .ofNat 3000), (2, .ofNat 0, .ofNat 2999), (3, .negSucc 0, .ofNat 2999), (4, .ofNat 0, .ofNat 6)], [], [(63, (.ofNat 0, []), (.ofNat 0, [(3, .ofNat 1)])), (65, (.ofNat 0, []), (.ofNat 0, [(1, .ofNat 1)]))], [(5, (.ofNat 0, []), (.ofNat 0, [(1, .ofNat 1)]))]), 9, [(0, (2, (.ofNat 61, []))), (1, (2, (.ofNat 65, []))), (3, (0, (.ofNat 0, [(2, .ofNat 1)]))), (4, (0, (.ofNat 0, [(4, .ofNat 1)])))], []), (.ofNat 10000000001000000000, [(4, .negSucc 999999999999)])), (((7, [(0, .ofNat 0, .ofNat 6), (1, .ofNat 1, .ofNat 3000), (2, .ofNat 0, .ofNat 2999), (3, .negSucc 0, .ofNat 2999), (4, .ofNat 1, .ofNat 6), (5, .ofNat 0, .ofNat 5), (6, .ofNat 1, .ofNat 6)], [], [(65, (.ofNat 6, []), (.ofNat 0, [(4, .ofNat 1)])), (63, (.ofNat 0, []), (.ofNat 0, [(3, .ofNat 1)])), (65, (.ofNat 0, []), (.ofNat 0, [(1, .ofNat 1)]))], [(5, (.ofNat 0, []), (.ofNat 0, [(1, .ofNat 1)]))]), 24, [(0, (2, (.ofNat 61, []))), (1, (2, (.ofNat 65, []))), (3, (0, (.ofNat 0, [(2, .ofNat 1)]))), (4, (0, (.ofNat 0, [(5, .ofNat 1)]))), (5, (0, (.ofNat 0, [(6, .ofNat 1)])))], []), (.ofNat 10000000000010000000, [(5, .negSucc 999999999999), (6, .negSucc 0)]))]
def cktb_189 : List ck_Co := [ckcn_137]
def ckce_189_0 : List Nat := [0, 2, 3, 0, 1, 0, 1, 1, 2, 0, 3, 2, 0, 5, 0, 1, 0, 2, 0, 1, 1, 2, 0, 1, 2, 2, 0, 1, 3, 2, 0, 1, 0, 2, 0, 3, 2, 0, 5, 0, 1, 0, 2, 0, 1, 1, 2, 0, 0, 1, 0, 0, 1, 0, 2]
def ckce_189_1 : List Nat := [0, 4, 0, 1, 4, 0, 3, 0, 1, 0, 2, 0, 1, 1, 2, 0, 1, 3, 2, 0, 4, 2, 1, 7, 0, 1, 0, 2, 0, 1, 1, 2, 0, 1, 2, 2, 0, 1, 3, 2, 0, 1, 5, 2, 0, 1, 4, 2, 2, 1, 4, 2]
def ckce_189_2 : List Nat := [0, 4, 0, 2, 2, 0, 5, 0, 1, 0, 2, 0, 1, 1, 2, 0, 1, 2, 2, 0, 1, 3, 2, 2, 1, 5, 2, 0, 13, 0, 2, 2, 1, 7, 0, 1, 0, 2, 0, 1, 1, 2, 0, 1, 2, 2, 0, 1, 3, 2, 0, 1, 4, 2, 0, 1, 5, 2, 2, 1, 6, 2, 0, 12, 3, 0, 1, 0, 1, 1, 2, 0, 33, 0, 5, 2, 1, 7, 0, 1, 0, 2, 0, 1, 1, 2, 0, 1, 2, 2, 0, 1, 10, 2, 0, 1, 4, 2, 0, 1, 5, 2, 2, 1, 6, 2, 0, 26, 0, 5, 2, 1, 7, 0, 1, 0, 2, 0, 1, 1, 2, 0, 1, 2, 2, 0, 1, 10, 2, 0, 1, 4, 2, 0, 1, 5, 2, 2, 1, 6, 2, 0, 9, 4, 1, 5, 0, 1, 0, 2, 0, 1, 1, 2, 0, 2, 5, 20, 6, 2, 0, 1, 10, 2, 0, 1, 4, 2, 0, 33, 0, 5, 2, 1, 7, 0, 1, 0, 2, 0, 1, 1, 2, 0, 1, 2, 2, 1, 0, 0, 1, 4, 2, 0, 1, 5, 2, 2, 1, 6, 2, 0, 26, 0, 5, 2, 1, 7, 0, 1, 0, 2, 0, 1, 1, 2, 0, 1, 2, 2, 1, 0, 0, 1, 4, 2, 0, 1, 5, 2, 2, 1, 6, 2, 0, 9, 4, 1, 5, 0, 1, 0, 2, 0, 1, 1, 2, 0, 2, 5, 20, 6, 2, 1, 0, 0, 1, 4, 2]
set_option maxRecDepth 1000000 in
theorem ckie_189 : ck_in0 cktb_189 ckcn_189 ckpt_189 4000 ckce_189_0 = true := by decide +kernel
set_option maxRecDepth 1000000 in
theorem ckip_189_0 : ∀ p, ckpt_189[0]? = some p → ck_inP cktb_189 ckcn_189 ckpt_189 4000 p ckce_189_1 = true := by
  intro p hp
  cases hp
  decide +kernel
set_option maxRecDepth 1000000 in
theorem ckip_189_1 : ∀ p, ckpt_189[1]? = some p → ck_inP cktb_189 ckcn_189 ckpt_189 4000 p ckce_189_2 = true := by
  intro p hp
  cases hp
  decide +kernel
theorem ckco_189 : ck_CO ckcn_189 := ck_con (tab := cktb_189) (pats := ckpt_189) (List.forall_mem_cons.mpr ⟨ckco_137, (fun _ h => absurd h List.not_mem_nil)⟩) ckie_189 (List.forall_mem_cons.mpr ⟨⟨4000, ckce_189_1, ckip_189_0 _ rfl⟩, (List.forall_mem_cons.mpr ⟨⟨4000, ckce_189_2, ckip_189_1 _ rfl⟩, (fun _ h => absurd h List.not_mem_nil)⟩)⟩)
def ckpt_190 : List ck_Pt := []
def cktb_190 : List ck_Co := [ckcn_130, ckcn_131, ckcn_188, ckcn_189]
def ckce_190_0 : List Nat := [0, 1, 3, 0, 3, 0, 1, 0, 2, 0, 1, 1, 2, 0, 1, 2, 2, 0, 6, 0, 4, 4, 0, 5, 0, 1, 0, 2, 0, 1, 1, 2, 0, 1, 2, 2, 0, 1, 4, 2, 0, 1, 5, 2, 0, 3, 0, 4, 4, 0, 5, 0, 1, 0, 2, 0, 1, 1, 2, 0, 1, 2, 2, 0, 1, 4, 2, 0, 1, 5, 2, 0, 5, 3, 1, 0, 0, 6, 3, 2, 2, 0, 1, 3, 2, 0, 1, 5, 2, 4, 0, 5, 0, 1, 0, 2, 0, 1, 1, 2, 0, 1, 2, 2, 0, 1, 4, 2, 0, 1, 5, 2, 4, 1, 7, 0, 1, 0, 2, 0, 1, 1, 2, 0, 1, 2, 2, 0, 1, 7, 2, 0, 1, 8, 2, 0, 1, 4, 2, 0, 1, 5, 2, 0, 6, 0, 4, 4, 0, 5, 0, 1, 0, 2, 0, 1, 1, 2, 0, 1, 2, 2, 0, 1, 3, 2, 0, 1, 4, 2, 0, 3, 0, 4, 4, 0, 5, 0, 1, 0, 2, 0, 1, 1, 2, 0, 1, 2, 2, 0, 1, 3, 2, 0, 1, 4, 2, 0, 5, 3, 1, 0, 0, 6, 3, 3, 2, 0, 0, 0, 1, 3, 2, 4, 0, 5, 0, 1, 0, 2, 0, 1, 1, 2, 0, 1, 2, 2, 0, 1, 3, 2, 0, 1, 4, 2, 4, 1, 7, 0, 1, 0, 2, 0, 1, 1, 2, 0, 1, 2, 2, 0, 1, 6, 2, 0, 1, 7, 2, 0, 1, 3, 2, 0, 1, 4, 2]
set_option maxRecDepth 1000000 in
theorem ckie_190 : ck_in0 cktb_190 ckcn_190 ckpt_190 4000 ckce_190_0 = true := by decide +kernel
theorem ckco_190 : ck_CO ckcn_190 := ck_con (tab := cktb_190) (pats := ckpt_190) (List.forall_mem_cons.mpr ⟨ckco_130, (List.forall_mem_cons.mpr ⟨ckco_131, (List.forall_mem_cons.mpr ⟨ckco_188, (List.forall_mem_cons.mpr ⟨ckco_189, (fun _ h => absurd h List.not_mem_nil)⟩)⟩)⟩)⟩) ckie_190 (fun _ h => absurd h List.not_mem_nil)
def ckpt_191 : List ck_Pt := []
def cktb_191 : List ck_Co := [ckcn_170, ckcn_171, ckcn_188, ckcn_189]
def ckce_191_0 : List Nat := [0, 1, 3, 0, 3, 0, 1, 0, 2, 0, 1, 1, 2, 0, 1, 2, 2, 0, 6, 0, 4, 4, 0, 5, 0, 1, 0, 2, 0, 1, 1, 2, 0, 1, 2, 2, 0, 1, 4, 2, 0, 1, 5, 2, 0, 3, 0, 4, 4, 0, 5, 0, 1, 0, 2, 0, 1, 1, 2, 0, 1, 2, 2, 0, 1, 4, 2, 0, 1, 5, 2, 0, 5, 3, 1, 0, 0, 6, 3, 2, 2, 0, 1, 3, 2, 0, 1, 5, 2, 4, 0, 5, 0, 1, 0, 2, 0, 1, 1, 2, 0, 1, 2, 2, 0, 1, 4, 2, 0, 1, 5, 2, 4, 1, 7, 0, 1, 0, 2, 0, 1, 1, 2, 0, 1, 2, 2, 0, 1, 7, 2, 0, 1, 8, 2, 0, 1, 4, 2, 0, 1, 5, 2, 0, 6, 0, 4, 4, 0, 5, 0, 1, 0, 2, 0, 1, 1, 2, 0, 1, 2, 2, 0, 1, 3, 2, 0, 1, 4, 2, 0, 3, 0, 4, 4, 0, 5, 0, 1, 0, 2, 0, 1, 1, 2, 0, 1, 2, 2, 0, 1, 3, 2, 0, 1, 4, 2, 0, 5, 3, 1, 0, 0, 6, 3, 3, 2, 0, 0, 0, 1, 3, 2, 4, 0, 5, 0, 1, 0, 2, 0, 1, 1, 2, 0, 1, 2, 2, 0, 1, 3, 2, 0, 1, 4, 2, 4, 1, 7, 0, 1, 0, 2, 0, 1, 1, 2, 0, 1, 2, 2, 0, 1, 6, 2, 0, 1, 7, 2, 0, 1, 3, 2, 0, 1, 4, 2]
set_option maxRecDepth 1000000 in
theorem ckie_191 : ck_in0 cktb_191 ckcn_191 ckpt_191 4000 ckce_191_0 = true := by decide +kernel
theorem ckco_191 : ck_CO ckcn_191 := ck_con (tab := cktb_191) (pats := ckpt_191) (List.forall_mem_cons.mpr ⟨ckco_170, (List.forall_mem_cons.mpr ⟨ckco_171, (List.forall_mem_cons.mpr ⟨ckco_188, (List.forall_mem_cons.mpr ⟨ckco_189, (fun _ h => absurd h List.not_mem_nil)⟩)⟩)⟩)⟩) ckie_191 (fun _ h => absurd h List.not_mem_nil)
def ckpt_192 : List ck_Pt := [(((7, [(0, .ofNat 0, .ofNat 5), (1, .ofNat 0, .ofNat 7), (2, .ofNat 1, .ofNat 3000), (3, .ofNat 0, .ofNat 2), (4, .ofNat 0, .ofNat 100), (5, .negSucc 2147483647, .ofNat 2147483647), (6, .negSucc 2147483647, .ofNat 99)], [], [(61, (.ofNat 7, []), (.ofNat 0, [(5, .ofNat 1)])), (61, (.ofNat 6, []), (.ofNat 0, [(1, .ofNat 1)])), (61, (.ofNat 5, []), (.ofNat 0, [(0, .ofNat 1)])), (61, (.ofNat 4, []), (.ofNat 0, [(3, .ofNat 1)])), (62, (.ofNat 0, [(0, .ofNat 1)]), (.ofNat 0, [(3, .ofNat 1)])), (70, (.ofNat 0, []), (.ofNat 0, [(2, .ofNat 1)]))], [(6, (.ofNat 0, []), (.ofNat 0, [(2, .ofNat 1)]))]), 31, [(0, (2, (.ofNat 61, []))), (1, (2, (.ofNat 70, []))), (4, (0, (.ofNat 0, [(6, .ofNat 1)]))), (5, (0, (.ofNat 0, [(4, .ofNat 1)])))], []), (.ofNat 10000000, [(4, .negSucc 0)]))]
def cktb_192 : List ck_Co := [ckcn_134]
def ckce_192_0 : List Nat := [0, 19, 2, 0, 7, 0, 1, 0, 2, 0, 1, 1, 2, 0, 1, 2, 2, 0, 1, 3, 2, 0, 0, 0, 0, 1, 0]
def ckce_192_1 : List Nat := [0, 3, 0, 4, 4, 0, 6, 0, 1, 0, 2, 0, 1, 1, 2, 0, 1, 2, 2, 0, 1, 6, 2, 0, 1, 0, 2, 0, 1, 1, 2, 0, 4, 0, 4, 4, 0, 6, 0, 1, 0, 2, 0, 1, 1, 2, 0, 1, 2, 2, 0, 1, 6, 2, 0, 1, 0, 2, 0, 1, 1, 2, 0, 3, 0, 4, 4, 0, 6, 0, 1, 0, 2, 0, 1, 1, 2, 0, 1, 2, 2, 0, 1, 6, 2, 0, 1, 0, 2, 0, 1, 1, 2, 0, 7, 3, 0, 1, 0, 1, 2, 2, 0, 25, 0, 9, 2, 0, 7, 0, 1, 0, 2, 0, 1, 1, 2, 0, 1, 2, 2, 0, 1, 3, 2, 2, 1, 4, 2, 0, 1, 13, 2, 0, 1, 6, 2, 0, 13, 2, 0, 7, 0, 1, 0, 2, 0, 1, 1, 2, 0, 1, 2, 2, 0, 1, 3, 2, 2, 1, 4, 2, 0, 1, 13, 2, 0, 1, 5, 2, 0, 25, 0, 9, 2, 0, 7, 0, 1, 0, 2, 0, 1, 1, 2, 0, 1, 2, 2, 0, 1, 3, 2, 2, 1, 4, 2, 0, 1, 11, 2, 0, 1, 6, 2, 0, 13, 2, 0, 7, 0, 1, 0, 2, 0, 1, 1, 2, 0, 1, 2, 2, 0, 1, 3, 2, 2, 1, 4, 2, 0, 1, 11, 2, 0, 1, 5, 2]
set_option maxRecDepth 1000000 in
theorem ckie_192 : ck_in0 cktb_192 ckcn_192 ckpt_192 4000 ckce_192_0 = true := by decide +kernel
set_option maxRecDepth 1000000 in
theorem ckip_192_0 : ∀ p, ckpt_192[0]? = some p → ck_inP cktb_192 ckcn_192 ckpt_192 4000 p ckce_192_1 = true := by
  intro p hp
  cases hp
  decide +kernel
theorem ckco_192 : ck_CO ckcn_192 := ck_con (tab := cktb_192) (pats := ckpt_192) (List.forall_mem_cons.mpr ⟨ckco_134, (fun _ h => absurd h List.not_mem_nil)⟩) ckie_192 (List.forall_mem_cons.mpr ⟨⟨4000, ckce_192_1, ckip_192_0 _ rfl⟩, (fun _ h => absurd h List.not_mem_nil)⟩)
def ckpt_193 : List ck_Pt := [(((7, [(0, .ofNat 0, .ofNat 5), (1, .ofNat 0, .ofNat 7), (2, .ofNat 1, .ofNat 3000), (3, .ofNat 0, .ofNat 2), (4, .ofNat 0, .ofNat 100), (5, .negSucc 2147483647, .ofNat 2147483647), (6, .negSucc 2147483647, .ofNat 99)], [], [(61, (.ofNat 7, []), (.ofNat 0, [(5, .ofNat 1)])), (61, (.ofNat 6, []), (.ofNat 0, [(1, .ofNat 1)])), (61, (.ofNat 5, []), (.ofNat 0, [(0, .ofNat 1)])), (61, (.ofNat 4, []), (.ofNat 0, [(3, .ofNat 1)])), (62, (.ofNat 0, [(0, .ofNat 1)]), (.ofNat 0, [(3, .ofNat 1)])), (65, (.ofNat 0, []), (.ofNat 0, [(2, .ofNat 1)]))], [(5, (.ofNat 0, []), (.ofNat 0, [(2, .ofNat 1)]))]), 31, [(0, (2, (.ofNat 61, []))), (1, (2, (.ofNat 65, []))), (4, (0, (.ofNat 0, [(6, .ofNat 1)]))), (5, (0, (.ofNat 0, [(4, .ofNat 1)])))], []), (.ofNat 10000000, [(4, .negSucc 0)]))]
def cktb_193 : List ck_Co := [ckcn_137]
def ckce_193_0 : List Nat := [0, 19, 2, 0, 7, 0, 1, 0, 2, 0, 1, 1, 2, 0, 1, 2, 2, 0, 1, 3, 2, 0, 0, 0, 0, 1, 0]
def ckce_193_1 : List Nat := [0, 3, 0, 4, 4, 0, 6, 0, 1, 0, 2, 0, 1, 1, 2, 0, 1, 2, 2, 0, 1, 6, 2, 0, 1, 0, 2, 0, 1, 1, 2, 0, 4, 0, 4, 4, 0, 6, 0, 1, 0, 2, 0, 1, 1, 2, 0, 1, 2, 2, 0, 1, 6, 2, 0, 1, 0, 2, 0, 1, 1, 2, 0, 3, 0, 4, 4, 0, 6, 0, 1, 0, 2, 0, 1, 1, 2, 0, 1, 2, 2, 0, 1, 6, 2, 0, 1, 0, 2, 0, 1, 1, 2, 0, 7, 3, 0, 1, 0, 1, 2, 2, 0, 25, 0, 9, 2, 0, 7, 0, 1, 0, 2, 0, 1, 1, 2, 0, 1, 2, 2, 0, 1, 3, 2, 2, 1, 4, 2, 0, 1, 13, 2, 0, 1, 6, 2, 0, 13, 2, 0, 7, 0, 1, 0, 2, 0, 1, 1, 2, 0, 1, 2, 2, 0, 1, 3, 2, 2, 1, 4, 2, 0, 1, 13, 2, 0, 1, 5, 2, 0, 25, 0, 9, 2, 0, 7, 0, 1, 0, 2, 0, 1, 1, 2, 0, 1, 2, 2, 0, 1, 3, 2, 2, 1, 4, 2, 0, 1, 11, 2, 0, 1, 6, 2, 0, 13, 2, 0, 7, 0, 1, 0, 2, 0, 1, 1, 2, 0, 1, 2, 2, 0, 1, 3, 2, 2, 1, 4, 2, 0, 1, 11, 2, 0, 1, 5, 2]
set_option maxRecDepth 1000000 in
theorem ckie_193 : ck_in0 cktb_193 ckcn_193 ckpt_193 4000 ckce_193_0 = true := by decide +kernel
set_option maxRecDepth 1000000 in
theorem ckip_193_0 : ∀ p, ckpt_193[0]? = some p → ck_inP cktb_193 ckcn_193 ckpt_193 4000 p ckce_193_1 = true := by
  intro p hp
  cases hp
  decide +kernel
theorem ckco_193 : ck_CO ckcn_193 := ck_con (tab := cktb_193) (pats := ckpt_193) (List.forall_mem_cons.mpr ⟨ckco_137, (fun _ h => absurd h List.not_mem_nil)⟩) ckie_193 (List.forall_mem_cons.mpr ⟨⟨4000, ckce_193_1, ckip_193_0 _ rfl⟩, (fun _ h => absurd h List.not_mem_nil)⟩)
def ckpt_194 : List ck_Pt := []
def cktb_194 : List ck_Co := [ckcn_130, ckcn_131, ckcn_192, ckcn_193]
def ckce_194_0 : List Nat := [0, 9, 0, 7, 4, 0, 7, 0, 1, 0, 2, 0, 1, 1, 2, 0, 1, 2, 2, 0, 1, 3, 2, 0, 1, 4, 2, 0, 1, 2, 2, 0, 1, 3, 2, 0, 4, 0, 7, 4, 0, 7, 0, 1, 0, 2, 0, 1, 1, 2, 0, 1, 2, 2, 0, 1, 3, 2, 0, 1, 4, 2, 0, 1, 2, 2, 0, 1, 3, 2, 0, 9, 0, 4, 4, 0, 7, 0, 1, 0, 2, 0, 1, 1, 2, 0, 1, 2, 2, 0, 1, 3, 2, 0, 1, 4, 2, 0, 1, 2, 2, 0, 1, 3, 2, 0, 10, 0, 4, 4, 0, 7, 0, 1, 0, 2, 0, 1, 1, 2, 0, 1, 2, 2, 0, 1, 3, 2, 0, 1, 4, 2, 0, 1, 2, 2, 0, 1, 3, 2, 0, 4, 0, 4, 4, 0, 7, 0, 1, 0, 2, 0, 1, 1, 2, 0, 1, 2, 2, 0, 1, 3, 2, 0, 1, 4, 2, 0, 1, 2, 2, 0, 1, 3, 2, 0, 5, 3, 0, 3, 0, 1, 2, 2, 0, 1, 3, 2, 0, 1, 4, 2, 0, 6, 0, 4, 4, 1, 9, 0, 1, 0, 2, 0, 1, 1, 2, 0, 1, 2, 2, 0, 1, 3, 2, 0, 1, 4, 2, 0, 1, 7, 2, 0, 1, 6, 2, 0, 1, 9, 2, 0, 1, 10, 2, 0, 3, 0, 4, 4, 1, 9, 0, 1, 0, 2, 0, 1, 1, 2, 0, 1, 2, 2, 0, 1, 3, 2, 0, 1, 4, 2, 0, 1, 7, 2, 0, 1, 6, 2, 0, 1, 9, 2, 0, 1, 10, 2, 0, 5, 3, 1, 0, 0, 5, 3, 2, 3, 0, 1, 0, 2, 0, 1, 1, 2, 0, 1, 10, 2, 4, 2, 12, 0, 1, 0, 2, 0, 1, 1, 2, 0, 1, 2, 2, 0, 1, 3, 2, 0, 1, 4, 2, 0, 1, 12, 2, 0, 1, 7, 2, 0, 1, 6, 2, 0, 1, 13, 2, 0, 1, 14, 2, 0, 1, 9, 2, 0, 1, 10, 2, 0, 6, 0, 4, 4, 1, 9, 0, 1, 0, 2, 0, 1, 1, 2, 0, 1, 2, 2, 0, 1, 3, 2, 0, 1, 4, 2, 0, 1, 7, 2, 0, 1, 6, 2, 0, 1, 8, 2, 0, 1, 9, 2, 0, 3, 0, 4, 4, 1, 9, 0, 1, 0, 2, 0, 1, 1, 2, 0, 1, 2, 2, 0, 1, 3, 2, 0, 1, 4, 2, 0, 1, 7, 2, 0, 1, 6, 2, 0, 1, 8, 2, 0, 1, 9, 2, 0, 5, 3, 1, 0, 0, 5, 3, 3, 3, 0, 1, 0, 2, 0, 1, 1, 2, 0, 1, 8, 2, 4, 2, 12, 0, 1, 0, 2, 0, 1, 1, 2, 0, 1, 2, 2, 0, 1, 3, 2, 0, 1, 4, 2, 0, 1, 11, 2, 0, 1, 7, 2, 0, 1, 6, 2, 0, 1, 12, 2, 0, 1, 13, 2, 0, 1, 8, 2, 0, 1, 9, 2]
set_option maxRecDepth 1000000 in
theorem ckie_194 : ck_in0 cktb_194 ckcn_194 ckpt_194 4000 ckce_194_0 = true := by decide +kernel
theorem ckco_194 : ck_CO ckcn_194 := ck_con (tab := cktb_194) (pats := ckpt_194) (List.forall_mem_cons.mpr ⟨ckco_130, (List.forall_mem_cons.mpr ⟨ckco_131, (List.forall_mem_cons.mpr ⟨ckco_192, (List.forall_mem_cons.mpr ⟨ckco_193, (fun _ h => absurd h List.not_mem_nil)⟩)⟩)⟩)⟩) ckie_194 (fun _ h => absurd h List.not_mem_nil)
def ckpt_195 : List ck_Pt := []
def cktb_195 : List ck_Co := [ckcn_170, ckcn_171, ckcn_192, ckcn_193]
def ckce_195_0 : List Nat := [0, 9, 0, 7, 4, 0, 7, 0, 1, 0, 2, 0, 1, 1, 2, 0, 1, 2, 2, 0, 1, 3, 2, 0, 1, 4, 2, 0, 1, 2, 2, 0, 1, 3, 2, 0, 4, 0, 7, 4, 0, 7, 0, 1, 0, 2, 0, 1, 1, 2, 0, 1, 2, 2, 0, 1, 3, 2, 0, 1, 4, 2, 0, 1, 2, 2, 0, 1, 3, 2, 0, 9, 0, 4, 4, 0, 7, 0, 1, 0, 2, 0, 1, 1, 2, 0, 1, 2, 2, 0, 1, 3, 2, 0, 1, 4, 2, 0, 1, 2, 2, 0, 1, 3, 2, 0, 10, 0, 4, 4, 0, 7, 0, 1, 0, 2, 0, 1, 1, 2, 0, 1, 2, 2, 0, 1, 3, 2, 0, 1, 4, 2, 0, 1, 2, 2, 0, 1, 3, 2, 0, 4, 0, 4, 4, 0, 7, 0, 1, 0, 2, 0, 1, 1, 2, 0, 1, 2, 2, 0, 1, 3, 2, 0, 1, 4, 2, 0, 1, 2, 2, 0, 1, 3, 2, 0, 5, 3, 0, 3, 0, 1, 2, 2, 0, 1, 3, 2, 0, 1, 4, 2, 0, 6, 0, 4, 4, 1, 9, 0, 1, 0, 2, 0, 1, 1, 2, 0, 1, 2, 2, 0, 1, 3, 2, 0, 1, 4, 2, 0, 1, 7, 2, 0, 1, 6, 2, 0, 1, 9, 2, 0, 1, 10, 2, 0, 3, 0, 4, 4, 1, 9, 0, 1, 0, 2, 0, 1, 1, 2, 0, 1, 2, 2, 0, 1, 3, 2, 0, 1, 4, 2, 0, 1, 7, 2, 0, 1, 6, 2, 0, 1, 9, 2, 0, 1, 10, 2, 0, 5, 3, 1, 0, 0, 5, 3, 2, 3, 0, 1, 0, 2, 0, 1, 1, 2, 0, 1, 10, 2, 4, 2, 12, 0, 1, 0, 2, 0, 1, 1, 2, 0, 1, 2, 2, 0, 1, 3, 2, 0, 1, 4, 2, 0, 1, 12, 2, 0, 1, 7, 2, 0, 1, 6, 2, 0, 1, 13, 2, 0, 1, 14, 2, 0, 1, 9, 2, 0, 1, 10, 2, 0, 6, 0, 4, 4, 1, 9, 0, 1, 0, 2, 0, 1, 1, 2, 0, 1, 2, 2, 0, 1, 3, 2, 0, 1, 4, 2, 0, 1, 7, 2, 0, 1, 6, 2, 0, 1, 8, 2, 0, 1, 9, 2, 0, 3, 0, 4, 4, 1, 9, 0, 1, 0, 2, 0, 1, 1, 2, 0, 1, 2, 2, 0, 1, 3, 2, 0, 1, 4, 2, 0, 1, 7, 2, 0, 1, 6, 2, 0, 1, 8, 2, 0, 1, 9, 2, 0, 5, 3, 1, 0, 0, 5, 3, 3, 3, 0, 1, 0, 2, 0, 1, 1, 2, 0, 1, 8, 2, 4, 2, 12, 0, 1, 0, 2, 0, 1, 1, 2, 0, 1, 2, 2, 0, 1, 3, 2, 0, 1, 4, 2, 0, 1, 11, 2, 0, 1, 7, 2, 0, 1, 6, 2, 0, 1, 12, 2, 0, 1, 13, 2, 0, 1, 8, 2, 0, 1, 9, 2]
set_option maxRecDepth 1000000 in
theorem ckie_195 : ck_in0 cktb_195 ckcn_195 ckpt_195 4000 ckce_195_0 = true := by decide +kernel
theorem ckco_195 : ck_CO ckcn_195 := ck_con (tab := cktb_195) (pats := ckpt_195) (List.forall_mem_cons.mpr ⟨ckco_170, (List.forall_mem_cons.mpr ⟨ckco_171, (List.forall_mem_cons.mpr ⟨ckco_192, (List.forall_mem_cons.mpr ⟨ckco_193, (fun _ h => absurd h List.not_mem_nil)⟩)⟩)⟩)⟩) ckie_195 (fun _ h => absurd h List.not_mem_nil)
def ckpt_196 : List ck_Pt := [(((3, [(0, .ofNat 0, .ofNat 23), (1, .negSucc 2147483647, .ofNat 2147483647), (2, .ofNat 0, .ofNat 4)], [], [], []), 5, [(0, (2, (.ofNat 18, []))), (1, (0, (.ofNat 0, [(0, .ofNat 1)]))), (2, (2, (.ofNat 87, []))), (3, (0, (.ofNat 0, [(1, .ofNat 1)]))), (4, (0, (.ofNat 0, [(2, .ofNat 1)])))], []), (.ofNat 10000000, [(2, .negSucc 0)]))]
def cktb_196 : List ck_Co := []
def ckce_196_0 : List Nat := [0, 4, 2, 0, 3, 0, 1, 0, 2, 0, 0, 0, 0]
def ckce_196_1 : List Nat := [0, 6, 0, 1, 4, 0, 2, 0, 1, 0, 2, 0, 1, 1, 2, 0, 13, 0, 6, 2, 0, 3, 0, 1, 0, 2, 0, 1, 6, 2, 2, 1, 2, 2, 0, 1, 4, 0, 2, 0, 1, 0, 2, 0, 0]
set_option maxRecDepth 1000000 in
theorem ckie_196 : ck_in0 cktb_196 ckcn_196 ckpt_196 4000 ckce_196_0 = true := by decide +kernel
set_option maxRecDepth 1000000 in
theorem ckip_196_0 : ∀ p, ckpt_196[0]? = some p → ck_inP cktb_196 ckcn_196 ckpt_196 4000 p ckce_196_1 = true := by
  intro p hp
  cases hp
  decide +kernel
theorem ckco_196 : ck_CO ckcn_196 := ck_con (tab := cktb_196) (pats := ckpt_196) (fun _ h => absurd h List.not_mem_nil) ckie_196 (List.forall_mem_cons.mpr ⟨⟨4000, ckce_196_1, ckip_196_0 _ rfl⟩, (fun _ h => absurd h List.not_mem_nil)⟩)
def ckpt_197 : List ck_Pt := [(((1, [(0, .ofNat 0, .ofNat 16)], [], [], []), 2, [(0, (2, (.ofNat 18, []))), (1, (2, (.ofNat 87, []))), (2, (0, (.ofNat 0, [(0, .ofNat 1)])))], []), (.ofNat 20000000001000000000001000000000, [(0, .negSucc 999999999999999999999999)])), (((1, [(0, .ofNat 0, .ofNat 8)], [], [], []), 32, [(0, (2, (.ofNat 18, []))), (1, (2, (.ofNat 87, []))), (2, (0, (.ofNat 0, [(0, .ofNat 1)])))], []), (.ofNat 10000000001000000000001000000000, [(0, .negSucc 999999999999999999999999)])), (((3, [(0, .ofNat 1, .ofNat 8), (1, .ofNat 0, .ofNat 8), (2, .ofNat 0, .ofNat 7)], [], [(18, (.ofNat 6, []), (.ofNat 0, [(0, .ofNat 1)]))], []), 42, [(0, (2, (.ofNat 18, []))), (1, (2, (.ofNat 87, []))), (2, (0, (.ofNat 0, [(2, .ofNat 1)]))), (3, (0, (.ofNat 0, [(1, .ofNat 1)])))], []), (.ofNat 10000000000010000000001000000000, [(1, .negSucc 999999999999), (2, .negSucc 999999999999999999999999)])), (((5, [(0, .ofNat 1, .ofNat 8), (1, .ofNat 0, .ofNat 24), (2, .ofNat 0, .ofNat 7), (3, .ofNat 0, .ofNat 7), (4, .ofNat 0, .ofNat 24)], [], [(24, (.ofNat 0, []), (.ofNat 0, [(4, .ofNat 1)])), (18, (.ofNat 6, []), (.ofNat 0, [(0, .ofNat 1)]))], []), 58, [(0, (2, (.ofNat 18, []))), (1, (2, (.ofNat 87, []))), (2, (0, (.ofNat 0, [(2, .ofNat 1)]))), (3, (0, (.ofNat 0, [(3, .ofNat 1)]))), (4, (0, (.ofNat 0, [(1, .ofNat 1)])))], []), (.ofNat 10000000000010000000000010000000, [(1, .negSucc 0), (2, .negSucc 999999999999999999999999), (3, .negSucc 999999999999)]))]
def cktb_197 : List ck_Co := [ckcn_196]
def ckce_197_0 : List Nat := [0, 2, 2, 0, 1, 0, 0]
def ckce_197_1 : List Nat := [0, 3, 0, 2, 2, 1, 1, 0, 0, 0, 6, 0, 4, 2, 0, 1, 2, 1, 0, 2, 0, 5, 2, 0, 1, 2, 1, 0, 2]
def ckce_197_2 : List Nat := [0, 4, 4, 0, 0, 0, 2, 2, 2, 3, 0, 1, 1, 2, 0, 0, 0, 1, 0, 2]
def ckce_197_3 : List Nat := [0, 4, 0, 2, 2, 1, 1, 2, 1, 2, 2, 0, 5, 1, 1, 24, 0, 0, 2, 3, 5, 0, 1, 0, 2, 0, 1, 3, 2, 0, 1, 2, 2, 0, 1, 1, 2, 0, 1, 4, 2]
def ckce_197_4 : List Nat := [0, 8, 0, 2, 2, 2, 3, 0, 1, 0, 2, 2, 1, 3, 2, 0, 1, 2, 2, 0, 3, 3, 0, 1, 0, 1, 1, 2, 0, 9, 0, 2, 2, 3, 5, 0, 1, 0, 2, 2, 1, 1, 2, 0, 1, 2, 2, 0, 1, 3, 2, 0, 1, 4, 2, 0, 2, 0, 8, 2, 3, 5, 0, 1, 0, 2, 2, 1, 1, 2, 0, 1, 2, 2, 0, 1, 3, 2, 0, 1, 4, 2, 0, 3, 0, 2, 2, 3, 5, 0, 1, 0, 2, 2, 1, 1, 2, 0, 1, 2, 2, 0, 1, 3, 2, 0, 1, 4, 2, 0, 8, 2, 3, 5, 0, 1, 0, 2, 2, 1, 1, 2, 0, 1, 2, 2, 0, 1, 3, 2, 0, 1, 4, 2, 0, 11, 2, 3, 5, 0, 1, 0, 2, 2, 1, 1, 2, 0, 1, 2, 2, 0, 1, 3, 2, 0, 1, 4, 2]
set_option maxRecDepth 1000000 in
theorem ckie_197 : ck_in0 cktb_197 ckcn_197 ckpt_197 4000 ckce_197_0 = true := by decide +kernel
set_option maxRecDepth 1000000 in
theorem ckip_197_0 : ∀ p, ckpt_197[0]? = some p → ck_inP cktb_197 ckcn_197 ckpt_197 4000 p ckce_197_1 = true := by
  intro p hp
  cases hp
  decide +kernel
set_option maxRecDepth 1000000 in
theorem ckip_197_1 : ∀ p, ckpt_197[1]? = some p → ck_inP cktb_197 ckcn_197 ckpt_197 4000 p ckce_197_2 = true := by
  intro p hp
  cases hp
  decide +kernel
set_option maxRecDepth 1000000 in
theorem ckip_197_2 : ∀ p, ckpt_197[2]? = some p → ck_inP cktb_197 ckcn_197 ckpt_197 4000 p ckce_197_3 = true := by
  intro p hp
  cases hp
  decide +kernel
set_option maxRecDepth 1000000 in
theorem ckip_197_3 : ∀ p, ckpt_197[3]? = some p → ck_inP cktb_197 ckcn_197 ckpt_197 4000 p ckce_197_4 = true := by
  intro p hp
  cases hp
  decide +kernel
theorem ckco_197 : ck_CO ckcn_197 := ck_con (tab := cktb_197) (pats := ckpt_197) (List.forall_mem_cons.mpr ⟨ckco_196, (fun _ h => absurd h List.not_mem_nil)⟩) ckie_197 (List.forall_mem_cons.mpr ⟨⟨4000, ckce_197_1, ckip_197_0 _ rfl⟩, (List.forall_mem_cons.mpr ⟨⟨4000, ckce_197_2, ckip_197_1 _ rfl⟩, (List.forall_mem_cons.mpr ⟨⟨4000, ckce_197_3, ckip_197_2 _ rfl⟩, (List.forall_mem_cons.mpr ⟨⟨4000, ckce_197_4, ckip_197_3 _ rfl⟩, (fun _ h => absurd h List.not_mem_nil)⟩)⟩)⟩)⟩)
def ckpt_198 : List ck_Pt := [(((4, [(0, .ofNat 0, .ofNat 7), (1, .ofNat 0, .ofNat 24), (2, .ofNat 0, .ofNat 24), (3, .ofNat 0, .ofNat 255)], [], [(24, (.ofNat 0, [(0, .ofNat 1)]), (.ofNat 0, [(2, .ofNat 1)]))], []), 10, [(0, (2, (.ofNat 18, []))), (1, (0, (.ofNat 0, [(0, .ofNat 1)]))), (2, (2, (.ofNat 87, []))), (3, (0, (.ofNat 0, [(3, .ofNat 1)]))), (4, (0, (.ofNat 0, [(1, .ofNat 1)])))], []), (.ofNat 10000000001000000000, [(1, .negSucc 999999999999)])), (((6, [(0, .ofNat 0, .ofNat 7), (1, .ofNat 0, .ofNat 23), (2, .ofNat 0, .ofNat 24), (3, .ofNat 1, .ofNat 24), (4, .ofNat 0, .ofNat 4), (5, .ofNat 0, .ofNat 255)], [([(1, .ofNat 1), (3, .negSucc 0)], .negSucc 23, .negSucc 0)], [(24, (.ofNat 1, [(0, .ofNat 1)]), (.ofNat 0, [(3, .ofNat 1)])), (24, (.ofNat 0, [(0, .ofNat 1)]), (.ofNat 0, [(2, .ofNat 1)]))], []), 36, [(0, (2, (.ofNat 18, []))), (1, (0, (.ofNat 0, [(0, .ofNat 1)]))), (2, (2, (.ofNat 87, []))), (3, (0, (.ofNat 0, [(5, .ofNat 1)]))), (4, (0, (.ofNat 0, [(1, .ofNat 1)]))), (5, (0, (.ofNat 0, [(4, .ofNat 1)])))], []), (.ofNat 10000000000010000000, [(1, .negSucc 999999999999), (4, .negSucc 0)]))]
def cktb_198 : List ck_Co := [ckcn_196]
def ckce_198_0 : List Nat := [0, 7, 2, 0, 4, 0, 1, 0, 2, 0, 1, 1, 2, 0, 1, 1, 2, 0, 0]
def ckce_198_1 : List Nat := [0, 8, 0, 1, 4, 0, 2, 0, 1, 0, 2, 0, 1, 3, 2, 0, 3, 3, 0, 1, 0, 1, 1, 2, 0, 1, 0, 2, 2, 0, 4, 0, 1, 0, 2, 2, 1, 1, 2, 0, 1, 2, 2, 0, 1, 3, 2, 0, 2, 2, 1, 6, 0, 1, 0, 2, 0, 1, 1, 2, 0, 1, 2, 2, 0, 1, 4, 2, 0, 0, 0, 1, 3, 2, 0, 3, 2, 0, 4, 0, 1, 0, 2, 2, 1, 1, 2, 0, 1, 2, 2, 0, 1, 3, 2]
def ckce_198_2 : List Nat := [0, 6, 0, 2, 2, 0, 4, 0, 1, 0, 2, 2, 1, 1, 2, 0, 1, 2, 2, 0, 1, 5, 2, 0, 13, 0, 5, 2, 1, 6, 0, 1, 0, 2, 0, 1, 1, 2, 0, 1, 2, 2, 0, 1, 3, 2, 2, 1, 4, 2, 0, 1, 8, 2, 0, 10, 2, 1, 6, 0, 1, 0, 2, 0, 1, 1, 2, 0, 1, 2, 2, 0, 1, 3, 2, 2, 1, 4, 2, 0, 1, 9, 2]
set_option maxRecDepth 1000000 in
theorem ckie_198 : ck_in0 cktb_198 ckcn_198 ckpt_198 4000 ckce_198_0 = true := by decide +kernel
set_option maxRecDepth 1000000 in
theorem ckip_198_0 : ∀ p, ckpt_198[0]? = some p → ck_inP cktb_198 ckcn_198 ckpt_198 4000 p ckce_198_1 = true := by
  intro p hp
  cases hp
  decide +kernel
set_option maxRecDepth 1000000 in
theorem ckip_198_1 : ∀ p, ckpt_198[1]? = some p → ck_inP cktb_198 ckcn_198 ckpt_198 4000 p ckce_198_2 = true := by
  intro p hp
  cases hp
  decide +kernel
theorem ckco_198 : ck_CO ckcn_198 := ck_con (tab := cktb_198) (pats := ckpt_198) (List.forall_mem_cons.mpr ⟨ckco_196, (fun _ h => absurd h List.not_mem_nil)⟩) ckie_198 (List.forall_mem_cons.mpr ⟨⟨4000, ckce_198_1, ckip_198_0 _ rfl⟩, (List.forall_mem_cons.mpr ⟨⟨4000, ckce_198_2, ckip_198_1 _ rfl⟩, (fun _ h => absurd h List.not_mem_nil)⟩)⟩)
def ckpt_199 : List ck_Pt := [(((3, [(0, .ofNat 0, .ofNat 8), (1, .ofNat 0, .ofNat 255), (2, .ofNat 0, .ofNat 8)], [], [(18, (.ofNat 6, []), (.ofNat 0, [(0, .ofNat 1)]))], []), 22, [(0, (2, (.ofNat 18, []))), (1, (2, (.ofNat 87, []))), (2, (0, (.ofNat 0, [(1, .ofNat 1)]))), (3, (0, (.ofNat 0, [(2, .ofNat 1)])))], []), (.ofNat 10000000001000000000, [(2, .negSucc 999999999999)])), (((4, [(0, .ofNat 1, .ofNat 8), (1, .ofNat 0, .ofNat 255), (2, .ofNat 0, .ofNat 8), (3, .ofNat 0, .ofNat 7)], [], [(18, (.ofNat 6, []), (.ofNat 0, [(0, .ofNat 1)]))], []), 33, [(0, (2, (.ofNat 18, []))), (1, (2, (.ofNat 87, []))), (2, (0, (.ofNat 0, [(1, .ofNat 1)]))), (3, (0, (.ofNat 0, [(3, .ofNat 1)]))), (4, (0, (.ofNat 0, [(2, .ofNat 1)])))], []), (.ofNat 10000000000010000000, [(2, .negSucc 0), (3, .negSucc 999999999999)]))]
def cktb_199 : List ck_Co := [ckcn_198]
def ckce_199_0 : List Nat := [0, 3, 0, 4, 2, 0, 3, 0, 1, 0, 2, 0, 0, 0, 0, 0, 4, 0, 4, 2, 0, 3, 0, 1, 0, 2, 0, 0, 0, 0, 0, 5, 2, 0, 3, 0, 1, 0, 2, 2, 0, 0, 0]
def ckce_199_1 : List Nat := [0, 4, 0, 1, 4, 0, 1, 0, 1, 1, 2, 0, 2, 2, 1, 4, 0, 1, 0, 2, 0, 1, 1, 2, 0, 0, 0, 1, 2, 2]
def ckce_199_2 : List Nat := [0, 4, 0, 2, 2, 0, 3, 0, 1, 0, 2, 0, 1, 1, 2, 2, 1, 3, 2, 0, 6, 0, 2, 2, 1, 4, 0, 1, 0, 2, 0, 1, 1, 2, 2, 1, 2, 2, 0, 1, 3, 2, 0, 4, 3, 0, 1, 0, 1, 2, 2, 0, 4, 2, 1, 4, 0, 1, 0, 2, 0, 1, 7, 2, 2, 1, 2, 2, 0, 1, 3, 2]
set_option maxRecDepth 1000000 in
theorem ckie_199 : ck_in0 cktb_199 ckcn_199 ckpt_199 4000 ckce_199_0 = true := by decide +kernel
set_option maxRecDepth 1000000 in
theorem ckip_199_0 : ∀ p, ckpt_199[0]? = some p → ck_inP cktb_199 ckcn_199 ckpt_199 4000 p ckce_199_1 = true := by
  intro p hp
  cases hp
  decide +kernel
set_option maxRecDepth 1000000 in
theorem ckip_199_1 : ∀ p, ckpt_199[1]? = some p → ck_inP cktb_199 ckcn_199 ckpt_199 4000 p ckce_199_2 = true := by
  intro p hp
  cases hp
  decide +kernel
theorem ckco_199 : ck_CO ckcn_199 := ck_con (tab := cktb_199) (pats := ckpt_199) (List.forall_mem_cons.mpr ⟨ckco_198, (fun _ h => absurd h List.not_mem_nil)⟩) ckie_199 (List.forall_mem_cons.mpr ⟨⟨4000, ckce_199_1, ckip_199_0 _ rfl⟩, (List.forall_mem_cons.mpr ⟨⟨4000, ckce_199_2, ckip_199_1 _ rfl⟩, (fun _ h => absurd h List.not_mem_nil)⟩)⟩)
def ckpt_200 : List ck_Pt := []
def cktb_200 : List ck_Co := [ckcn_197, ckcn_199]
def ckce_200_0 : List Nat := [0, 4, 3, 0, 0, 0, 4, 3, 1, 0, 4, 0, 4, 0, 1, 0, 2, 0, 1, 1, 2, 0, 1, 2, 2, 0, 1, 3, 2]
set_option maxRecDepth 1000000 in
theorem ckie_200 : ck_in0 cktb_200 ckcn_200 ckpt_200 4000 ckce_200_0 = true := by decide +kernel
theorem ckco_200 : ck_CO ckcn_200 := ck_con (tab := cktb_200) (pats := ckpt_200) (List.forall_mem_cons.mpr ⟨ckco_197, (List.forall_mem_cons.mpr ⟨ckco_199, (fun _ h => absurd h List.not_mem_nil)⟩)⟩) ckie_200 (fun _ h => absurd h List.not_mem_nil)
def ckpt_201 : List ck_Pt := [(((3, [(0, .ofNat 0, .ofNat 23), (1, .negSucc 2147483647, .ofNat 2147483647), (2, .ofNat 0, .ofNat 4)], [], [], []), 5, [(0, (2, (.ofNat 28, []))), (1, (0, (.ofNat 0, [(0, .ofNat 1)]))), (2, (2, (.ofNat 87, []))), (3, (0, (.ofNat 0, [(1, .ofNat 1)]))), (4, (0, (.ofNat 0, [(2, .ofNat 1)])))], []), (.ofNat 10000000, [(2, .negSucc 0)]))]
def cktb_201 : List ck_Co := []
def ckce_201_0 : List Nat := [0, 4, 2, 0, 3, 0, 1, 0, 2, 0, 0, 0, 0]
def ckce_201_1 : List Nat := [0, 6, 0, 1, 4, 0, 2, 0, 1, 0, 2, 0, 1, 1, 2, 0, 13, 0, 6, 2, 0, 3, 0, 1, 0, 2, 0, 1, 6, 2, 2, 1, 2, 2, 0, 1, 4, 0, 2, 0, 1, 0, 2, 0, 0]
set_option maxRecDepth 1000000 in
theorem ckie_201 : ck_in0 cktb_201 ckcn_201 ckpt_201 4000 ckce_201_0 = true := by decide +kernel
set_option maxRecDepth 1000000 in
theorem ckip_201_0 : ∀ p, ckpt_201[0]? = some p → ck_inP cktb_201 ckcn_201 ckpt_201 4000 p ckce_201_1 = true := by
  intro p hp
  cases hp
  decide +kernel
theorem ckco_201 : ck_CO ckcn_201 := ck_con (tab := cktb_201) (pats := ckpt_201) (fun _ h => absurd h List.not_mem_nil) ckie_201 (List.forall_mem_cons.mpr ⟨⟨4000, ckce_201_1, ckip_201_0 _ rfl⟩, (fun _ h => absurd h List.not_mem_nil)⟩)
def ckpt_202 : List ck_Pt := [(((1, [(0, .ofNat 0, .ofNat 16)], [], [], []), 2, [(0, (2, (.ofNat 28, []))), (1, (2, (.ofNat 87, []))), (2, (0, (.ofNat 0, [(0, .ofNat 1)])))], []), (.ofNat 20000000001000000000001000000000, [(0, .negSucc 999999999999999999999999)])), (((1, [(0, .ofNat 0, .ofNat 8)], [], [], []), 32, [(0, (2, (.ofNat 28, []))), (1, (2, (.ofNat 87, []))), (2, (0, (.ofNat 0, [(0, .ofNat 1)])))], []), (.ofNat 10000000001000000000001000000000, [(0, .negSucc 999999999999999999999999)])), (((3, [(0, .ofNat 1, .ofNat 8), (1, .ofNat 0, .ofNat 8), (2, .ofNat 0, .ofNat 7)], [], [(28, (.ofNat 6, []), (.ofNat 0, [(0, .ofNat 1)]))], []), 42, [(0, (2, (.ofNat 28, []))), (1, (2, (.ofNat 87, []))), (2, (0, (.ofNat 0, [(2, .ofNat 1)]))), (3, (0, (.ofNat 0, [(1, .ofNat 1)])))], []), (.ofNat 10000000000010000000001000000000, [(1, .negSucc 999999999999), (2, .negSucc 999999999999999999999999)])), (((5, [(0, .ofNat 1, .ofNat 8), (1, .ofNat 0, .ofNat 24), (2, .ofNat 0, .ofNat 7), (3, .ofNat 0, .ofNat 7), (4, .ofNat 0, .ofNat 24)], [], [(34, (.ofNat 0, []), (.ofNat 0, [(4, .ofNat 1)])), (28, (.ofNat 6, []), (.ofNat 0, [(0, .ofNat 1)]))], []), 58, [(0, (2, (.ofNat 28, []))), (1, (2, (.ofNat 87, []))), (2, (0, (.ofNat 0, [(2, .ofNat 1)]))), (3, (0, (.ofNat 0, [(3, .ofNat 1)]))), (4, (0, (.ofNat 0, [(1, .ofNat 1)])))], []), (.ofNat 10000000000010000000000010000000, [(1, .negSucc 0), (2, .negSucc 999999999999999999999999), (3, .negSucc 999999999999)]))]
def cktb_202 : List ck_Co := [ckcn_201]
def ckce_202_0 : List Nat := [0, 2, 2, 0, 1, 0, 0]
def ckce_202_1 : List Nat := [0, 3, 0, 2, 2, 1, 1, 0, 0, 0, 6, 0, 4, 2, 0, 1, 2, 1, 0, 2, 0, 5, 2, 0, 1, 2, 1, 0, 2]
def ckce_202_2 : List Nat := [0, 4, 4, 0, 0, 0, 2, 2, 2, 3, 0, 1, 1, 2, 0, 0, 0, 1, 0, 2]
def ckce_202_3 : List Nat := [0, 4, 0, 2, 2, 1, 1, 2, 1, 2, 2, 0, 5, 1, 1, 34, 0, 0, 2, 3, 5, 0, 1, 0, 2, 0, 1, 3, 2, 0, 1, 2, 2, 0, 1, 1, 2, 0, 1, 4, 2]
def ckce_202_4 : List Nat := [0, 8, 0, 2, 2, 2, 3, 0, 1, 0, 2, 2, 1, 3, 2, 0, 1, 2, 2, 0, 3, 3, 0, 1, 0, 1, 1, 2, 0, 9, 0, 2, 2, 3, 5, 0, 1, 0, 2, 2, 1, 1, 2, 0, 1, 2, 2, 0, 1, 3, 2, 0, 1, 4, 2, 0, 2, 0, 8, 2, 3, 5, 0, 1, 0, 2, 2, 1, 1, 2, 0, 1, 2, 2, 0, 1, 3, 2, 0, 1, 4, 2, 0, 3, 0, 2, 2, 3, 5, 0, 1, 0, 2, 2, 1, 1, 2, 0, 1, 2, 2, 0, 1, 3, 2, 0, 1, 4, 2, 0, 8, 2, 3, 5, 0, 1, 0, 2, 2, 1, 1, 2, 0, 1, 2, 2, 0, 1, 3, 2, 0, 1, 4, 2, 0, 11, 2, 3, 5, 0, 1, 0, 2, 2, 1, 1, 2, 0, 1, 2, 2, 0, 1, 3, 2, 0, 1, 4, 2]
set_option maxRecDepth 1000000 in
theorem ckie_202 : ck_in0 cktb_202 ckcn_202 ckpt_202 4000 ckce_202_0 = true := by decide +kernel
set_option maxRecDepth 1000000 in
theorem ckip_202_0 : ∀ p, ckpt_202[0]? = some p → ck_inP cktb_202 ckcn_202 ckpt_202 4000 p ckce_202_1 = true := by
  intro p hp
  cases hp
  decide +kernel
set_option maxRecDepth 1000000 in
theorem ckip_202_1 : ∀ p, ckpt_202[1]? = some p → ck_inP cktb_202 ckcn_202 ckpt_202 4000 p ckce_202_2 = true := by
  intro p hp
  cases hp
  decide +kernel
set_option maxRecDepth 1000000 in
theorem ckip_202_2 : ∀ p, ckpt_202[2]? = some p → ck_inP cktb_202 ckcn_202 ckpt_202 4000 p ckce_202_3 = true := by
  intro p hp
  cases hp
  decide +kernel
set_option maxRecDepth 1000000 in
theorem ckip_202_3 : ∀ p, ckpt_202[3]? = some p → ck_inP cktb_202 ckcn_202 ckpt_202 4000 p ckce_202_4 = true := by
  intro p hp
  cases hp
  decide +kernel
theorem ckco_202 : ck_CO ckcn_202 := ck_con (tab := cktb_202) (pats := ckpt_202) (List.forall_mem_cons.mpr ⟨ckco_201, (fun _ h => absurd h List.not_mem_nil)⟩) ckie_202 (List.forall_mem_cons.mpr ⟨⟨4000, ckce_202_1, ckip_202_0 _ rfl⟩, (List.forall_mem_cons.mpr ⟨⟨4000, ckce_202_2, ckip_202_1 _ rfl⟩, (List.forall_mem_cons.mpr ⟨⟨4000, ckce_202_3, ckip_202_2 _ rfl⟩, (List.forall_mem_cons.mpr ⟨⟨4000, ckce_202_4, ckip_202_3 _ rfl⟩, (fun _ h => absurd h List.not_mem_nil)⟩)⟩)⟩)⟩)
def ckpt_203 : List ck_Pt := [(((4, [(0, .ofNat 0, .ofNat 7), (1, .ofNat 0, .ofNat 24), (2, .ofNat 0, .ofNat 24), (3, .ofNat 0, .ofNat 255)], [], [(34, (.ofNat 0, [(0, .ofNat 1)]), (.ofNat 0, [(2, .ofNat 1)]))], []), 10, [(0, (2, (.ofNat 28, []))), (1, (0, (.ofNat 0, [(0, .ofNat 1)]))), (2, (2, (.ofNat 87, []))), (3, (0, (.ofNat 0, [(3, .ofNat 1)]))), (4, (0, (.ofNat 0, [(1, .ofNat 1)])))], []), (.ofNat 10000000001000000000, [(1, .negSucc 999999999999)])), (((6, [(0, .ofNat 0, .ofNat 7), (1, .ofNat 0, .ofNat 23), (2, .ofNat 0, .ofNat 24), (3, .ofNat 1, .ofNat 24), (4, .ofNat 0, .ofNat 4), (5, .ofNat 0, .ofNat 255)], [([(1, .ofNat 1), (3, .negSucc 0)], .negSucc 23, .negSucc 0)], [(34, (.ofNat 1, [(0, .ofNat 1)]), (.ofNat 0, [(3, .ofNat 1)])), (34, (.ofNat 0, [(0, .ofNat 1)]), (.ofNat 0, [(2, .ofNat 1)]))], []), 36, [(0, (2, (.ofNat 28, []))), (1, (0, (.ofNat 0, [(0, .ofNat 1)]))), (2, (2, (.ofNat 87, []))), (3, (0, (.ofNat 0, [(5, .ofNat 1)]))), (4, (0, (.ofNat 0, [(1, .ofNat 1)]))), (5, (0, (.ofNat 0, [(4, .ofNat 1)])))], []), (.ofNat 10000000000010000000, [(1, .negSucc 999999999999), (4, .negSucc 0)]))]
def cktb_203 : List ck_Co := [ckcn_201]
def ckce_203_0 : List Nat := [0, 7, 2, 0, 4, 0, 1, 0, 2, 0, 1, 1, 2, 0, 1, 1, 2, 0, 0]
def ckce_203_1 : List Nat := [0, 8, 0, 1, 4, 0, 2, 0, 1, 0, 2, 0, 1, 3, 2, 0, 3, 3, 0, 1, 0, 1, 1, 2, 0, 1, 0, 2, 2, 0, 4, 0, 1, 0, 2, 2, 1, 1, 2, 0, 1, 2, 2, 0, 1, 3, 2, 0, 2, 2, 1, 6, 0, 1, 0, 2, 0, 1, 1, 2, 0, 1, 2, 2, 0, 1, 4, 2, 0, 0, 0, 1, 3, 2, 0, 3, 2, 0, 4, 0, 1, 0, 2, 2, 1, 1, 2, 0, 1, 2, 2, 0, 1, 3, 2]
def ckce_203_2 : List Nat := [0, 6, 0, 2, 2, 0, 4, 0, 1, 0, 2, 2, 1, 1, 2, 0, 1, 2, 2, 0, 1, 5, 2, 0, 13, 0, 5, 2, 1, 6, 0, 1, 0, 2, 0, 1, 1, 2, 0, 1, 2, 2, 0, 1, 3, 2, 2, 1, 4, 2, 0, 1, 8, 2, 0, 10, 2, 1, 6, 0, 1, 0, 2, 0, 1, 1, 2, 0, 1, 2, 2, 0, 1, 3, 2, 2, 1, 4, 2, 0, 1, 9, 2]
set_option maxRecDepth 1000000 in
theorem ckie_203 : ck_in0 cktb_203 ckcn_203 ckpt_203 4000 ckce_203_0 = true := by decide +kernel
set_option maxRecDepth 1000000 in
theorem ckip_203_0 : ∀ p, ckpt_203[0]? = some p → ck_inP cktb_203 ckcn_203 ckpt_203 4000 p ckce_203_1 = true := by
  intro p hp
  cases hp
  decide +kernel
set_option maxRecDepth 1000000 in
theorem ckip_203_1 : ∀ p, ckpt_203[1]? = some p → ck_inP cktb_203 ckcn_203 ckpt_203 4000 p ckce_203_2 = true := by
  intro p hp
  cases hp
  decide +kernel
theorem ckco_203 : ck_CO ckcn_203 := ck_con (tab := cktb_203) (pats := ckpt_203) (List.forall_mem_cons.mpr ⟨ckco_201, (fun _ h => absurd h List.not_mem_nil)⟩) ckie_203 (List.forall_mem_cons.mpr ⟨⟨4000, ckce_203_1, ckip_203_0 _ rfl⟩, (List.forall_mem_cons.mpr ⟨⟨4000, ckce_203_2, ckip_203_1 _ rfl⟩, (fun _ h => absurd h List.not_mem_nil)⟩)⟩)
def ckpt_204 : List ck_Pt := [(((3, [(0, .ofNat 0, .ofNat 8), (1, .ofNat 0, .ofNat 255), (2, .ofNat 0, .ofNat 8)], [], [(28, (.ofNat 6, []), (.ofNat 0, [(0, .ofNat 1)]))], []), 22, [(0, (2, (.ofNat 28, []))), (1, (2, (.ofNat 87, []))), (2, (0, (.ofNat 0, [(1, .ofNat 1)]))), (3, (0, (.ofNat 0, [(2, .ofNat 1)])))], []), (.ofNat 10000000001000000000, [(2, .negSucc 999999999999)])), (((4, [(0, .ofNat 1, .ofNat 8), (1, .ofNat 0, .ofNat 255), (2, .ofNat 0, .ofNat 8), (3, .ofNat 0, .ofNat 7)], [], [(28, (.ofNat 6, []), (.ofNat 0, [(0, .ofNat 1)]))], []), 33, [(0, (2, (.ofNat 28, []))), (1, (2, (.ofNat 87, []))), (2, (0, (.ofNat 0, [(1, .ofNat 1)]))), (3, (0, (.ofNat 0, [(3, .ofNat 1)]))), (4, (0, (.ofNat 0, [(2, .ofNat 1)])))], []), (.ofNat 10000000000010000000, [(2, .negSucc 0), (3, .negSucc 999999999999)]))]
def cktb_204 : List ck_Co := [ckcn_203]
def ckce_204_0 : List Nat := [0, 3, 0, 4, 2, 0, 3, 0, 1, 0, 2, 0, 0, 0, 0, 0, 4, 0, 4, 2, 0, 3, 0, 1, 0, 2, 0, 0, 0, 0, 0, 5, 2, 0, 3, 0, 1, 0, 2, 2, 0, 0, 0]
def ckce_204_1 : List Nat := [0, 4, 0, 1, 4, 0, 1, 0, 1, 1, 2, 0, 2, 2, 1, 4, 0, 1, 0, 2, 0, 1, 1, 2, 0, 0, 0, 1, 2, 2]
def ckce_204_2 : List Nat := [0, 4, 0, 2, 2, 0, 3, 0, 1, 0, 2, 0, 1, 1, 2, 2, 1, 3, 2, 0, 6, 0, 2, 2, 1, 4, 0, 1, 0, 2, 0, 1, 1, 2, 2, 1, 2, 2, 0, 1, 3, 2, 0, 4, 3, 0, 1, 0, 1, 2, 2, 0, 4, 2, 1, 4, 0, 1, 0, 2, 0, 1, 7, 2, 2, 1, 2, 2, 0, 1, 3, 2]
set_option maxRecDepth 1000000 in
theorem ckie_204 : ck_in0 cktb_204 ckcn_204 ckpt_204 4000 ckce_204_0 = true := by decide +kernel
set_option maxRecDepth 1000000 in
theorem ckip_204_0 : ∀ p, ckpt_204[0]? = some p → ck_inP cktb_204 ckcn_204 ckpt_204 4000 p ckce_204_1 = true := by
  intro p hp
  cases hp
  decide +kernel
set_option maxRecDepth 1000000 in
theorem ckip_204_1 : ∀ p, ckpt_204[1]? = some p → ck_inP cktb_204 ckcn_204 ckpt_204 4000 p ckce_204_2 = true := by
  intro p hp
  cases hp
  decide +kernel
theorem ckco_204 : ck_CO ckcn_204 := ck_con (tab := cktb_204) (pats := ckpt_204) (List.forall_mem_cons.mpr ⟨ckco_203, (fun _ h => absurd h List.not_mem_nil)⟩) ckie_204 (List.forall_mem_cons.mpr ⟨⟨4000, ckce_204_1, ckip_204_0 _ rfl⟩, (List.forall_mem_cons.mpr ⟨⟨4000, ckce_204_2, ckip_204_1 _ rfl⟩, (fun _ h => absurd h List.not_mem_nil)⟩)⟩)
def ckpt_205 : List ck_Pt := []
def cktb_205 : List ck_Co := [ckcn_202, ckcn_204]
def ckce_205_0 : List Nat := [0, 4, 3, 0, 0, 0, 4, 3, 1, 0, 4, 0, 4, 0, 1, 0, 2, 0, 1, 1, 2, 0, 1, 2, 2, 0, 1, 3, 2]
set_option maxRecDepth 1000000 in
theorem ckie_205 : ck_in0 cktb_205 ckcn_205 ckpt_205 4000 ckce_205_0 = true := by decide +kernel
theorem ckco_205 : ck_CO ckcn_205 := ck_con (tab := cktb_205) (pats := ckpt_205) (List.forall_mem_cons.mpr ⟨ckco_202, (List.forall_mem_cons.mpr ⟨ckco_204, (fun _ h => absurd h List.not_mem_nil)⟩)⟩) ckie_205 (fun _ h => absurd h List.not_mem_nil)
def ckpt_206 : List ck_Pt := []
def cktb_206 : List ck_Co := [ckcn_197]
def ckce_206_0 : List Nat := [0, 2, 0, 1, 4, 0, 4, 0, 1, 0, 2, 0, 1, 1, 2, 0, 1, 2, 2, 0, 1, 3, 2, 0, 5, 0, 4, 3, 0, 0, 0, 6, 4, 1, 6, 0, 1, 0, 2, 0, 1, 1, 2, 0, 1, 2, 2, 0, 1, 3, 2, 0, 1, 5, 2, 0, 1, 4, 2, 0, 1, 4, 0, 4, 0, 1, 0, 2, 0, 1, 1, 2, 0, 1, 2, 2, 0, 1, 3, 2]
set_option maxRecDepth 1000000 in
theorem ckie_206 : ck_in0 cktb_206 ckcn_206 ckpt_206 4000 ckce_206_0 = true := by decide +kernel
theorem ckco_206 : ck_CO ckcn_206 := ck_con (tab := cktb_206) (pats := ckpt_206) (List.forall_mem_cons.mpr ⟨ckco_197, (fun _ h => absurd h List.not_mem_nil)⟩) ckie_206 (fun _ h => absurd h List.not_mem_nil)
def ckpt_207 : List ck_Pt := []
def cktb_207 : List ck_Co := [ckcn_202]
def ckce_207_0 : List Nat := [0, 2, 0, 1, 4, 0, 4, 0, 1, 0, 2, 0, 1, 1, 2, 0, 1, 2, 2, 0, 1, 3, 2, 0, 5, 0, 4, 3, 0, 0, 0, 6, 4, 1, 6, 0, 1, 0, 2, 0, 1, 1, 2, 0, 1, 2, 2, 0, 1, 3, 2, 0, 1, 5, 2, 0, 1, 4, 2, 0, 1, 4, 0, 4, 0, 1, 0, 2, 0, 1, 1, 2, 0, 1, 2, 2, 0, 1, 3, 2]
set_option maxRecDepth 1000000 in
theorem ckie_207 : ck_in0 cktb_207 ckcn_207 ckpt_207 4000 ckce_207_0 = true := by decide +kernel
theorem ckco_207 : ck_CO ckcn_207 := ck_con (tab := cktb_207) (pats := ckpt_207) (List.forall_mem_cons.mpr ⟨ckco_202, (fun _ h => absurd h List.not_mem_nil)⟩) ckie_207 (fun _ h => absurd h List.not_mem_nil)
def ckpt_208 : List ck_Pt := [(((2, [(0, .ofNat 0, .ofNat 2999), (1, .ofNat 0, .ofNat 6)], [], [], []), 2, [(0, (2, (.ofNat 65, []))), (1, (0, (.ofNat 0, [(0, .ofNat 1)]))), (2, (2, (.ofNat 87, []))), (3, (0, (.ofNat 0, [(1, .ofNat 1)])))], []), (.ofNat 10000000, [(1, .negSucc 0)]))]
def cktb_208 : List ck_Co := []
def ckce_208_0 : List Nat := [0, 2, 2, 0, 2, 0, 1, 0, 2, 0, 0]
def ckce_208_1 : List Nat := [0, 4, 4, 0, 1, 0, 1, 0, 2, 0, 25, 2, 0, 2, 0, 1, 0, 2, 2, 1, 1, 2]
set_option maxRecDepth 1000000 in
theorem ckie_208 : ck_in0 cktb_208 ckcn_208 ckpt_208 4000 ckce_208_0 = true := by decide +kernel
set_option maxRecDepth 1000000 in
theorem ckip_208_0 : ∀ p, ckpt_208[0]? = some p → ck_inP cktb_208 ckcn_208 ckpt_208 4000 p ckce_208_1 = true := by
  intro p hp
  cases hp
  decide +kernel
theorem ckco_208 : ck_CO ckcn_208 := ck_con (tab := cktb_208) (pats := ckpt_208) (fun _ h => absurd h List.not_mem_nil) ckie_208 (List.forall_mem_cons.mpr ⟨⟨4000, ckce_208_1, ckip_208_0 _ rfl⟩, (fun _ h => absurd h List.not_mem_nil)⟩)
def ckpt_209 : List ck_Pt := [(((2, [(0, .ofNat 0, .ofNat 6), (1, .ofNat 0, .ofNat 6)], [], [], []), 3, [(0, (2, (.ofNat 58, []))), (1, (2, (.ofNat 18, []))), (2, (2, (.ofNat 87, []))), (3, (0, (.ofNat 0, [(0, .ofNat 1)]))), (4, (0, (.ofNat 0, [(1, .ofNat 1)])))], []), (.ofNat 20000000, [(1, .negSucc 0)])), (((3, [(0, .ofNat 0, .ofNat 6), (1, .ofNat 0, .ofNat 6), (2, .ofNat 0, .ofNat 6)], [], [(58, (.ofNat 1, []), (.ofNat 0, [(1, .ofNat 1)]))], []), 42, [(0, (2, (.ofNat 58, []))), (1, (2, (.ofNat 18, []))), (2, (2, (.ofNat 87, []))), (3, (0, (.ofNat 0, [(0, .ofNat 1)]))), (5, (0, (.ofNat 0, [(2, .ofNat 1)])))], []), (.ofNat 10000000, [(2, .negSucc 0)]))]
def cktb_209 : List ck_Co := [ckcn_85]
def ckce_209_0 : List Nat := [0, 2, 2, 0, 2, 0, 1, 0, 2, 0, 0]
def ckce_209_1 : List Nat := [0, 4, 0, 2, 2, 1, 3, 0, 1, 0, 2, 0, 1, 2, 2, 0, 1, 1, 2, 0, 3, 0, 2, 2, 1, 3, 0, 1, 0, 2, 0, 1, 2, 2, 0, 1, 1, 2, 0, 8, 0, 2, 2, 1, 3, 0, 1, 0, 2, 0, 1, 2, 2, 0, 1, 1, 2, 0, 2, 2, 0, 2, 0, 1, 0, 2, 2, 1, 1, 2]
def ckce_209_2 : List Nat := [0, 3, 0, 5, 0, 1, 4, 0, 1, 0, 1, 0, 2, 0, 3, 0, 1, 4, 0, 1, 0, 1, 0, 2, 0, 9, 4, 1, 4, 0, 1, 0, 2, 0, 1, 4, 2, 0, 1, 3, 2, 0, 1, 0, 2, 0, 12, 3, 0, 1, 2, 1, 2, 2, 0, 2, 2, 1, 3, 0, 1, 0, 2, 0, 1, 1, 2, 2, 1, 2, 2]
set_option maxRecDepth 1000000 in
theorem ckie_209 : ck_in0 cktb_209 ckcn_209 ckpt_209 4000 ckce_209_0 = true := by decide +kernel
set_option maxRecDepth 1000000 in
theorem ckip_209_0 : ∀ p, ckpt_209[0]? = some p → ck_inP cktb_209 ckcn_209 ckpt_209 4000 p ckce_209_1 = true := by
  intro p hp
  cases hp
  decide +kernel
set_option maxRecDepth 1000000 in
theorem ckip_209_1 : ∀ p, ckpt_209[1]? = some p → ck_inP cktb_209 ckcn_209 ckpt_209 4000 p ckce_209_2 = true := by
  intro p hp
  cases hp
  decide +kernel
theorem ckco_209 : ck_CO ckcn_209 := ck_con (tab := cktb_209) (pats := ckpt_209) (List.forall_mem_cons.mpr ⟨ckco_85, (fun _ h => absurd h List.not_mem_nil)⟩) ckie_209 (List.forall_mem_cons.mpr ⟨⟨4000, ckce_209_1, ckip_209_0 _ rfl⟩, (List.forall_mem_cons.mpr ⟨⟨4000, ckce_209_2, ckip_209_1 _ rfl⟩, (fun _ h => absurd h List.not_mem_nil)⟩)⟩)
def ckpt_210 : List ck_Pt := [(((6, [(0, .ofNat 0, .ofNat 3000), (1, .ofNat 0, .ofNat 3000), (2, .ofNat 0, .ofNat 3000), (3, .ofNat 0, .ofNat 3000), (4, .ofNat 0, .ofNat 0), (5, .ofNat 0, .ofNat 3000)], [], [(65, (.ofNat 1, []), (.ofNat 0, [(4, .ofNat 1)])), (65, (.ofNat 10, []), (.ofNat 0, [])), (65, (.ofNat 7, []), (.ofNat 1, [])), (65, (.ofNat 0, []), (.ofNat 0, [(3, .ofNat 1)])), (0, (.ofNat 16, []), (.ofNat 0, [])), (0, (.ofNat 3, []), (.ofNat 18, [])), (0, (.ofNat 4, []), (.ofNat 28, [])), (70, (.ofNat 0, []), (.ofNat 0, [(1, .ofNat 1)])), (75, (.ofNat 0, []), (.ofNat 0, [(2, .ofNat 1)]))], [(5, (.ofNat 0, []), (.ofNat 0, [(3, .ofNat 1)])), (0, (.ofNat 0, []), (.ofNat 0, [])), (4, (.ofNat 0, []), (.ofNat 40, [])), (6, (.ofNat 0, []), (.ofNat 0, [(1, .ofNat 1)])), (7, (.ofNat 0, []), (.ofNat 0, [(2, .ofNat 1)]))]), 22, [(0, (2, (.ofNat 0, []))), (1, (2, (.ofNat 65, []))), (2, (0, (.ofNat 0, [(5, .ofNat 1)])))], []), (.ofNat 10000000, [(5, .negSucc 0)]))]
def cktb_210 : List ck_Co := [ckcn_129, ckcn_208, ckcn_209, ckcn_138]
def ckce_210_0 : List Nat := [0, 16, 3, 0, 2, 0, 0, 0, 1, 0, 2, 0, 7, 0, 2, 2, 0, 6, 0, 1, 0, 2, 0, 1, 1, 2, 0, 1, 2, 2, 0, 1, 3, 2, 0, 1, 4, 2, 0, 0, 0, 1, 4, 0, 4, 0, 1, 0, 2, 0, 1, 1, 2, 0, 1, 2, 2, 0, 1, 3, 2]
def ckce_210_1 : List Nat := [0, 4, 0, 1, 4, 1, 4, 0, 1, 0, 2, 0, 1, 1, 2, 0, 1, 2, 2, 0, 1, 3, 2, 0, 10, 0, 5, 2, 0, 6, 0, 1, 0, 2, 0, 1, 1, 2, 0, 1, 2, 2, 0, 1, 3, 2, 0, 1, 4, 2, 2, 1, 5, 2, 0, 8, 3, 1, 1, 0, 1, 5, 2, 0, 9, 3, 2, 1, 0, 1, 8, 2, 0, 6, 2, 0, 6, 0, 1, 0, 2, 0, 1, 1, 2, 0, 1, 2, 2, 0, 1, 3, 2, 0, 1, 4, 2, 2, 1, 5, 2, 0, 4, 0, 2, 2, 0, 6, 0, 1, 0, 2, 0, 1, 1, 2, 0, 1, 2, 2, 0, 1, 3, 2, 0, 1, 4, 2, 2, 1, 5, 2, 0, 3, 3, 3, 1, 0, 1, 5, 2, 0, 1, 4, 2, 8, 0, 1, 0, 2, 0, 1, 1, 2, 0, 1, 2, 2, 0, 1, 9, 2, 0, 1, 12, 2, 0, 1, 10, 2, 0, 1, 11, 2, 0, 1, 3, 2]
set_option maxRecDepth 1000000 in
theorem ckie_210 : ck_in0 cktb_210 ckcn_210 ckpt_210 4000 ckce_210_0 = true := by decide +kernel
set_option maxRecDepth 1000000 in
theorem ckip_210_0 : ∀ p, ckpt_210[0]? = some p → ck_inP cktb_210 ckcn_210 ckpt_210 4000 p ckce_210_1 = true := by
  intro p hp
  cases hp
  decide +kernel
theorem ckco_210 : ck_CO ckcn_210 := ck_con (tab := cktb_210) (pats := ckpt_210) (List.forall_mem_cons.mpr ⟨ckco_129, (List.forall_mem_cons.mpr ⟨ckco_208, (List.forall_mem_cons.mpr ⟨ckco_209, (List.forall_mem_cons.mpr ⟨ckco_138, (fun _ h => absurd h List.not_mem_nil)⟩)⟩)⟩)⟩) ckie_210 (List.forall_mem_cons.mpr ⟨⟨4000, ckce_210_1, ckip_210_0 _ rfl⟩, (fun _ h => absurd h List.not_mem_nil)⟩)
def ckpt_211 : List ck_Pt := [(((2, [(0, .ofNat 0, .ofNat 6), (1, .ofNat 0, .ofNat 6)], [], [], []), 3, [(0, (2, (.ofNat 58, []))), (1, (2, (.ofNat 28, []))), (2, (2, (.ofNat 87, []))), (3, (0, (.ofNat 0, [(0, .ofNat 1)]))), (4, (0, (.ofNat 0, [(1, .ofNat 1)])))], []), (.ofNat 20000000, [(1, .negSucc 0)])), (((3, [(0, .ofNat 0, .ofNat 6), (1, .ofNat 0, .ofNat 6), (2, .ofNat 0, .ofNat 6)], [], [(58, (.ofNat 1, []), (.ofNat 0, [(1, .ofNat 1)]))], []), 42, [(0, (2, (.ofNat 58, []))), (1, (2, (.ofNat 28, []))), (2, (2, (.ofNat 87, []))), (3, (0, (.ofNat 0, [(0, .ofNat 1)]))), (5, (0, (.ofNat 0, [(2, .ofNat 1)])))], []), (.ofNat 10000000, [(2, .negSucc 0)]))]
def cktb_211 : List ck_Co := [ckcn_92]
def ckce_211_0 : List Nat := [0, 2, 2, 0, 2, 0, 1, 0, 2, 0, 0]
def ckce_211_1 : List Nat := [0, 4, 0, 2, 2, 1, 3, 0, 1, 0, 2, 0, 1, 2, 2, 0, 1, 1, 2, 0, 3, 0, 2, 2, 1, 3, 0, 1, 0, 2, 0, 1, 2, 2, 0, 1, 1, 2, 0, 8, 0, 2, 2, 1, 3, 0, 1, 0, 2, 0, 1, 2, 2, 0, 1, 1, 2, 0, 2, 2, 0, 2, 0, 1, 0, 2, 2, 1, 1, 2]
def ckce_211_2 : List Nat := [0, 3, 0, 5, 0, 1, 4, 0, 1, 0, 1, 0, 2, 0, 3, 0, 1, 4, 0, 1, 0, 1, 0, 2, 0, 9, 4, 1, 4, 0, 1, 0, 2, 0, 1, 4, 2, 0, 1, 3, 2, 0, 1, 0, 2, 0, 12, 3, 0, 1, 2, 1, 2, 2, 0, 2, 2, 1, 3, 0, 1, 0, 2, 0, 1, 1, 2, 2, 1, 2, 2]
set_option maxRecDepth 1000000 in
theorem ckie_211 : ck_in0 cktb_211 ckcn_211 ckpt_211 4000 ckce_211_0 = true := by decide +kernel
set_option maxRecDepth 1000000 in
theorem ckip_211_0 : ∀ p, ckpt_211[0]? = some p → ck_inP cktb_211 ckcn_211 ckpt_211 4000 p ckce_211_1 = true := by
  intro p hp
  cases hp
  decide +kernel
set_option maxRecDepth 1000000 in
theorem ckip_211_1 : ∀ p, ckpt_211[1]? = some p → ck_inP cktb_211 ckcn_211 ckpt_211 4000 p ckce_211_2 = true := by
  intro p hp
  cases hp
  decide +kernel
theorem ckco_211 : ck_CO ckcn_211 := ck_con (tab := cktb_211) (pats := ckpt_211) (List.forall_mem_cons.mpr ⟨ckco_92, (fun _ h => absurd h List.not_mem_nil)⟩) ckie_211 (List.forall_mem_cons.mpr ⟨⟨4000, ckce_211_1, ckip_211_0 _ rfl⟩, (List.forall_mem_cons.mpr ⟨⟨4000, ckce_211_2, ckip_211_1 _ rfl⟩, (fun _ h => absurd h List.not_mem_nil)⟩)⟩)
def ckpt_212 : List ck_Pt := [(((6, [(0, .ofNat 0, .ofNat 3000), (1, .ofNat 0, .ofNat 3000), (2, .ofNat 0, .ofNat 3000), (3, .ofNat 0, .ofNat 3000), (4, .ofNat 0, .ofNat 0), (5, .ofNat 0, .ofNat 3000)], [], [(65, (.ofNat 1, []), (.ofNat 0, [(4, .ofNat 1)])), (65, (.ofNat 10, []), (.ofNat 0, [])), (65, (.ofNat 7, []), (.ofNat 1, [])), (65, (.ofNat 0, []), (.ofNat 0, [(3, .ofNat 1)])), (0, (.ofNat 16, []), (.ofNat 0, [])), (0, (.ofNat 3, []), (.ofNat 28, [])), (0, (.ofNat 4, []), (.ofNat 18, [])), (70, (.ofNat 0, []), (.ofNat 0, [(1, .ofNat 1)])), (75, (.ofNat 0, []), (.ofNat 0, [(2, .ofNat 1)]))], [(5, (.ofNat 0, []), (.ofNat 0, [(3, .ofNat 1)])), (1, (.ofNat 0, []), (.ofNat 0, [])), (4, (.ofNat 0, []), (.ofNat 40, [])), (6, (.ofNat 0, []), (.ofNat 0, [(1, .ofNat 1)])), (7, (.ofNat 0, []), (.ofNat 0, [(2, .ofNat 1)]))]), 22, [(0, (2, (.ofNat 0, []))), (1, (2, (.ofNat 65, []))), (2, (0, (.ofNat 0, [(5, .ofNat 1)])))], []), (.ofNat 10000000, [(5, .negSucc 0)]))]
def cktb_212 : List ck_Co := [ckcn_169, ckcn_208, ckcn_211, ckcn_173]
def ckce_212_0 : List Nat := [0, 16, 3, 0, 2, 0, 0, 0, 1, 0, 2, 0, 7, 0, 2, 2, 0, 6, 0, 1, 0, 2, 0, 1, 1, 2, 0, 1, 2, 2, 0, 1, 3, 2, 0, 1, 4, 2, 0, 0, 0, 1, 4, 0, 4, 0, 1, 0, 2, 0, 1, 1, 2, 0, 1, 2, 2, 0, 1, 3, 2]
def ckce_212_1 : List Nat := [0, 4, 0, 1, 4, 1, 4, 0, 1, 0, 2, 0, 1, 1, 2, 0, 1, 2, 2, 0, 1, 3, 2, 0, 10, 0, 5, 2, 0, 6, 0, 1, 0, 2, 0, 1, 1, 2, 0, 1, 2, 2, 0, 1, 3, 2, 0, 1, 4, 2, 2, 1, 5, 2, 0, 8, 3, 1, 1, 0, 1, 5, 2, 0, 9, 3, 2, 1, 0, 1, 8, 2, 0, 6, 2, 0, 6, 0, 1, 0, 2, 0, 1, 1, 2, 0, 1, 2, 2, 0, 1, 3, 2, 0, 1, 4, 2, 2, 1, 5, 2, 0, 4, 0, 2, 2, 0, 6, 0, 1, 0, 2, 0, 1, 1, 2, 0, 1, 2, 2, 0, 1, 3, 2, 0, 1, 4, 2, 2, 1, 5, 2, 0, 3, 3, 3, 1, 0, 1, 5, 2, 0, 1, 4, 2, 8, 0, 1, 0, 2, 0, 1, 1, 2, 0, 1, 2, 2, 0, 1, 9, 2, 0, 1, 12, 2, 0, 1, 10, 2, 0, 1, 11, 2, 0, 1, 3, 2]
set_option maxRecDepth 1000000 in
theorem ckie_212 : ck_in0 cktb_212 ckcn_212 ckpt_212 4000 ckce_212_0 = true := by decide +kernel
set_option maxRecDepth 1000000 in
theorem ckip_212_0 : ∀ p, ckpt_212[0]? = some p → ck_inP cktb_212 ckcn_212 ckpt_212 4000 p ckce_212_1 = true := by
  intro p hp
  cases hp
  decide +kernel
theorem ckco_212 : ck_CO ckcn_212 := ck_con (tab := cktb_212) (pats := ckpt_212) (List.forall_mem_cons.mpr ⟨ckco_169, (List.forall_mem_cons.mpr ⟨ckco_208, (List.forall_mem_cons.mpr ⟨ckco_211, (List.forall_mem_cons.mpr ⟨ckco_173, (fun _ h => absurd h List.not_mem_nil)⟩)⟩)⟩)⟩) ckie_212 (List.forall_mem_cons.mpr ⟨⟨4000, ckce_212_1, ckip_212_0 _ rfl⟩, (fun _ h => absurd h List.not_mem_nil)⟩)
def ckpt_213 : List ck_Pt := [(((2, [(0, .ofNat 1, .ofNat 3000), (1, .ofNat 0, .ofNat 6)], [], [(65, (.ofNat 0, []), (.ofNat 0, [(0, .ofNat 1)]))], [(5, (.ofNat 0, []), (.ofNat 0, [(0, .ofNat 1)]))]), 2, [(0, (2, (.ofNat 61, []))), (1, (2, (.ofNat 65, []))), (2, (0, (.ofNat 0, [(1, .ofNat 1)])))], []), (.ofNat 10000000001000000000, [(1, .negSucc 999999999999)])), (((4, [(0, .ofNat 1, .ofNat 3000), (1, .ofNat 0, .ofNat 0), (2, .ofNat 0, .ofNat 5), (3, .ofNat 0, .ofNat 6)], [], [(61, (.ofNat 3, []), (.ofNat 0, [(1, .ofNat 1)])), (65, (.ofNat 0, []), (.ofNat 0, [(0, .ofNat 1)]))], [(5, (.ofNat 0, []), (.ofNat 0, [(0, .ofNat 1)]))]), 17, [(0, (2, (.ofNat 61, []))), (1, (2, (.ofNat 65, []))), (2, (0, (.ofNat 0, [(2, .ofNat 1)]))), (3, (0, (.ofNat 0, [(3, .ofNat 1)])))], []), (.ofNat 10000000000010000000, [(2, .negSucc 999999999999), (3, .negSucc 0)]))]
def cktb_213 : List ck_Co := [ckcn_137]
def ckce_213_0 : List Nat := [0, 2, 2, 0, 2, 0, 1, 0, 2, 0, 0]
def ckce_213_1 : List Nat := [0, 3, 0, 3, 4, 0, 1, 0, 1, 0, 2, 0, 3, 0, 3, 4, 0, 1, 0, 1, 0, 2, 0, 2, 2, 1, 4, 0, 1, 0, 2, 0, 1, 2, 2, 0, 1, 1, 2, 0, 0]
def ckce_213_2 : List Nat := [0, 4, 0, 5, 3, 0, 1, 0, 1, 0, 2, 0, 3, 2, 0, 2, 0, 1, 0, 2, 2, 1, 2, 2, 0, 3, 2, 0, 2, 0, 1, 0, 2, 2, 1, 2, 2, 0, 15, 2, 1, 4, 0, 1, 0, 2, 0, 1, 1, 2, 0, 1, 2, 2, 2, 1, 3, 2]
set_option maxRecDepth 1000000 in
theorem ckie_213 : ck_in0 cktb_213 ckcn_213 ckpt_213 4000 ckce_213_0 = true := by decide +kernel
set_option maxRecDepth 1000000 in
theorem ckip_213_0 : ∀ p, ckpt_213[0]? = some p → ck_inP cktb_213 ckcn_213 ckpt_213 4000 p ckce_213_1 = true := by
  intro p hp
  cases hp
  decide +kernel
set_option maxRecDepth 1000000 in
theorem ckip_213_1 : ∀ p, ckpt_213[1]? = some p → ck_inP cktb_213 ckcn_213 ckpt_213 4000 p ckce_213_2 = true := by
  intro p hp
  cases hp
  decide +kernel
theorem ckco_213 : ck_CO ckcn_213 := ck_con (tab := cktb_213) (pats := ckpt_213) (List.forall_mem_cons.mpr ⟨ckco_137, (fun _ h => absurd h List.not_mem_nil)⟩) ckie_213 (List.forall_mem_cons.mpr ⟨⟨4000, ckce_213_1, ckip_213_0 _ rfl⟩, (List.forall_mem_cons.mpr ⟨⟨4000, ckce_213_2, ckip_213_1 _ rfl⟩, (fun _ h => absurd h List.not_mem_nil)⟩)⟩)
def ckpt_214 : List ck_Pt := [(((8, [(0, .ofNat 0, .ofNat 2), (1, .ofNat 0, .ofNat 3000), (2, .ofNat 0, .ofNat 3000), (3, .ofNat 0, .ofNat 3000), (4, .ofNat 1, .ofNat 3000), (5, .ofNat 0, .ofNat 0), (6, .negSucc 2147483647, .ofNat 2147483647), (7, .ofNat 0, .ofNat 6)], [], [(61, (.ofNat 3, []), (.ofNat 1, [])), (65, (.ofNat 1, []), (.ofNat 0, [(5, .ofNat 1)])), (65, (.ofNat 10, []), (.ofNat 0, [])), (65, (.ofNat 7, []), (.ofNat 1, [])), (65, (.ofNat 0, []), (.ofNat 0, [(4, .ofNat 1)])), (0, (.ofNat 3, []), (.ofNat 18, [])), (0, (.ofNat 4, []), (.ofNat 28, [])), (70, (.ofNat 0, []), (.ofNat 0, [(2, .ofNat 1)])), (75, (.ofNat 0, []), (.ofNat 0, [(3, .ofNat 1)]))], [(5, (.ofNat 0, []), (.ofNat 0, [(4, .ofNat 1)])), (0, (.ofNat 0, []), (.ofNat 0, [])), (4, (.ofNat 0, []), (.ofNat 40, [])), (6, (.ofNat 0, []), (.ofNat 0, [(2, .ofNat 1)])), (7, (.ofNat 0, []), (.ofNat 0, [(3, .ofNat 1)]))]), 35, [(0, (2, (.ofNat 0, []))), (1, (0, (.ofNat 0, [(0, .ofNat 1)]))), (2, (2, (.ofNat 65, []))), (3, (0, (.ofNat 0, [(6, .ofNat 1)]))), (4, (0, (.ofNat 0, [(7, .ofNat 1)])))], []), (.ofNat 10000000, [(7, .negSucc 0)]))]
def cktb_214 : List ck_Co := [ckcn_129, ckcn_213]
def ckce_214_0 : List Nat := [0, 13, 3, 0, 2, 0, 0, 0, 1, 1, 2, 0, 8, 0, 4, 4, 0, 6, 0, 1, 0, 2, 0, 1, 1, 2, 0, 1, 2, 2, 0, 1, 3, 2, 1999999, 0, 0, 1, 4, 2, 0, 3, 0, 4, 4, 0, 6, 0, 1, 0, 2, 0, 1, 1, 2, 0, 1, 2, 2, 0, 1, 3, 2, 1999999, 0, 0, 1, 4, 2, 0, 9, 0, 4, 4, 0, 6, 0, 1, 0, 2, 0, 1, 1, 2, 0, 1, 2, 2, 0, 1, 3, 2, 1999999, 0, 0, 1, 4, 2, 0, 3, 0, 4, 4, 0, 6, 0, 1, 0, 2, 0, 1, 1, 2, 0, 1, 2, 2, 0, 1, 3, 2, 1999999, 0, 0, 1, 4, 2, 0, 7, 3, 1, 1, 0, 1, 4, 2, 0, 4, 2, 0, 8, 0, 1, 0, 2, 0, 1, 1, 2, 0, 1, 2, 2, 0, 1, 3, 2, 0, 1, 4, 2, 0, 1, 5, 2, 0, 0, 0, 0]
def ckce_214_1 : List Nat := [0, 3, 0, 1, 4, 0, 6, 0, 1, 0, 2, 0, 1, 1, 2, 0, 1, 2, 2, 0, 1, 3, 2, 0, 1, 6, 2, 0, 1, 4, 2, 0, 17, 2, 0, 8, 0, 1, 0, 2, 0, 1, 1, 2, 0, 1, 2, 2, 0, 1, 3, 2, 0, 1, 4, 2, 0, 1, 5, 2, 0, 1, 10, 2, 2, 1, 7, 2]
set_option maxRecDepth 1000000 in
theorem ckie_214 : ck_in0 cktb_214 ckcn_214 ckpt_214 4000 ckce_214_0 = true := by decide +kernel
set_option maxRecDepth 1000000 in
theorem ckip_214_0 : ∀ p, ckpt_214[0]? = some p → ck_inP cktb_214 ckcn_214 ckpt_214 4000 p ckce_214_1 = true := by
  intro p hp
  cases hp
  decide +kernel
theorem ckco_214 : ck_CO ckcn_214 := ck_con (tab := cktb_214) (pats := ckpt_214) (List.forall_mem_cons.mpr ⟨ckco_129, (List.forall_mem_cons.mpr ⟨ckco_213, (fun _ h => absurd h List.not_mem_nil)⟩)⟩) ckie_214 (List.forall_mem_cons.mpr ⟨⟨4000, ckce_214_1, ckip_214_0 _ rfl⟩, (fun _ h => absurd h List.not_mem_nil)⟩)
def ckpt_215 : List ck_Pt := [(((8, [(0, .ofNat 0, .ofNat 2), (1, .ofNat 0, .ofNat 3000), (2, .ofNat 0, .ofNat 3000), (3, .ofNat 0, .ofNat 3000), (4, .ofNat 1, .ofNat 3000), (5, .ofNat 0, .ofNat 0), (6, .negSucc 2147483647, .ofNat 2147483647), (7, .ofNat 0, .ofNat 6)], [], [(61, (.ofNat 3, []), (.ofNat 1, [])), (65, (.ofNat 1, []), (.ofNat 0, [(5, .ofNat 1)])), (65, (.ofNat 10, []), (.ofNat 0, [])), (65, (.ofNat 7, []), (.ofNat 1, [])), (65, (.ofNat 0, []), (.ofNat 0, [(4, .ofNat 1)])), (0, (.ofNat 3, []), (.ofNat 28, [])), (0, (.ofNat 4, []), (.ofNat 18, [])), (70, (.ofNat 0, []), (.ofNat 0, [(2, .ofNat 1)])), (75, (.ofNat 0, []), (.ofNat 0, [(3, .ofNat 1)]))], [(5, (.ofNat 0, []), (.ofNat 0, [(4, .ofNat 1)])), (1, (.ofNat 0, []), (.ofNat 0, [])), (4, (.ofNat 0, []), (.ofNat 40, [])), (6, (.ofNat 0, []), (.ofNat 0, [(2, .ofNat 1)])), (7, (.ofNat 0, []), (.ofNat 0, [(3, .ofNat 1)]))]), 35, [(0, (2, (.ofNat 0, []))), (1, (0, (.ofNat 0, [(0, .ofNat 1)]))), (2, (2, (.ofNat 65, []))), (3, (0, (.ofNat 0, [(6, .ofNat 1)]))), (4, (0, (.ofNat 0, [(7, .ofNat 1)])))], []), (.ofNat 10000000, [(7, .negSucc 0)]))]
def cktb_215 : List ck_Co := [ckcn_169, ckcn_213]
def ckce_215_0 : List Nat := [0, 13, 3, 0, 2, 0, 0, 0, 1, 1, 2, 0, 8, 0, 4, 4, 0, 6, 0, 1, 0, 2, 0, 1, 1, 2, 0, 1, 2, 2, 0, 1, 3, 2, 1999999, 0, 0, 1, 4, 2, 0, 3, 0, 4, 4, 0, 6, 0, 1, 0, 2, 0, 1, 1, 2, 0, 1, 2, 2, 0, 1, 3, 2, 1999999, 0, 0, 1, 4, 2, 0, 9, 0, 4, 4, 0, 6, 0, 1, 0, 2, 0, 1, 1, 2, 0, 1, 2, 2, 0, 1, 3, 2, 1999999, 0, 0, 1, 4, 2, 0, 3, 0, 4, 4, 0, 6, 0, 1, 0, 2, 0, 1, 1, 2, 0, 1, 2, 2, 0, 1, 3, 2, 1999999, 0, 0, 1, 4, 2, 0, 7, 3, 1, 1, 0, 1, 4, 2, 0, 4, 2, 0, 8, 0, 1, 0, 2, 0, 1, 1, 2, 0, 1, 2, 2, 0, 1, 3, 2, 0, 1, 4, 2, 0, 1, 5, 2, 0, 0, 0, 0]
def ckce_215_1 : List Nat := [0, 3, 0, 1, 4, 0, 6, 0, 1, 0, 2, 0, 1, 1, 2, 0, 1, 2, 2, 0, 1, 3, 2, 0, 1, 6, 2, 0, 1, 4, 2, 0, 17, 2, 0, 8, 0, 1, 0, 2, 0, 1, 1, 2, 0, 1, 2, 2, 0, 1, 3, 2, 0, 1, 4, 2, 0, 1, 5, 2, 0, 1, 10, 2, 2, 1, 7, 2]
set_option maxRecDepth 1000000 in
theorem ckie_215 : ck_in0 cktb_215 ckcn_215 ckpt_215 4000 ckce_215_0 = true := by decide +kernel
set_option maxRecDepth 1000000 in
theorem ckip_215_0 : ∀ p, ckpt_215[0]? = some p → ck_inP cktb_215 ckcn_215 ckpt_215 4000 p ckce_215_1 = true := by
  intro p hp
  cases hp
  decide +kernel
theorem ckco_215 : ck_CO ckcn_215 := ck_con (tab := cktb_215) (pats := ckpt_215) (List.forall_mem_cons.mpr ⟨ckco_169, (List.forall_mem_cons.mpr ⟨ckco_213, (fun _ h => absurd h List.not_mem_nil)⟩)⟩) ckie_215 (List.forall_mem_cons.mpr ⟨⟨4000, ckce_215_1, ckip_215_0 _ rfl⟩, (fun _ h => absurd h List.not_mem_nil)⟩)
def ckpt_216 : List ck_Pt := []
def cktb_216 : List ck_Co := []
def ckce_216_0 : List Nat := [0, 6, 0, 4, 4, 0, 5, 0, 1, 0, 2, 0, 1, 1, 2, 0, 1, 2, 2, 0, 1, 3, 2, 0, 1, 4, 2, 0, 4, 0, 4, 4, 0, 5, 0, 1, 0, 2, 0, 1, 1, 2, 0, 1, 2, 2, 0, 1, 3, 2, 0, 1, 4, 2, 0, 7, 0, 21, 4, 1, 5, 0, 1, 0, 2, 0, 1, 1, 2, 0, 1, 2, 2, 0, 1, 3, 2, 0, 1, 4, 2, 0, 6, 0, 4, 4, 0, 5, 0, 1, 0, 2, 0, 1, 1, 2, 0, 1, 2, 2, 0, 1, 3, 2, 0, 1, 4, 2, 0, 4, 0, 4, 4, 0, 5, 0, 1, 0, 2, 0, 1, 1, 2, 0, 1, 2, 2, 0, 1, 3, 2, 0, 1, 4, 2, 0, 25, 4, 1, 5, 0, 1, 0, 2, 0, 1, 1, 2, 0, 1, 2, 2, 0, 1, 3, 2, 0, 1, 4, 2]
set_option maxRecDepth 1000000 in
theorem ckie_216 : ck_in0 cktb_216 ckcn_216 ckpt_216 4000 ckce_216_0 = true := by decide +kernel
theorem ckco_216 : ck_CO ckcn_216 := ck_con (tab := cktb_216) (pats := ckpt_216) (fun _ h => absurd h List.not_mem_nil) ckie_216 (fun _ h => absurd h List.not_mem_nil)
def ckpt_217 : List ck_Pt := []
def cktb_217 : List ck_Co := []
def ckce_217_0 : List Nat := [0, 6, 0, 4, 4, 0, 5, 0, 1, 0, 2, 0, 1, 1, 2, 0, 1, 2, 2, 0, 1, 3, 2, 0, 1, 4, 2, 0, 4, 0, 4, 4, 0, 5, 0, 1, 0, 2, 0, 1, 1, 2, 0, 1, 2, 2, 0, 1, 3, 2, 0, 1, 4, 2, 0, 7, 0, 21, 4, 1, 5, 0, 1, 0, 2, 0, 1, 1, 2, 0, 1, 2, 2, 0, 1, 3, 2, 0, 1, 4, 2, 0, 6, 0, 4, 4, 0, 5, 0, 1, 0, 2, 0, 1, 1, 2, 0, 1, 2, 2, 0, 1, 3, 2, 0, 1, 4, 2, 0, 4, 0, 4, 4, 0, 5, 0, 1, 0, 2, 0, 1, 1, 2, 0, 1, 2, 2, 0, 1, 3, 2, 0, 1, 4, 2, 0, 25, 4, 1, 5, 0, 1, 0, 2, 0, 1, 1, 2, 0, 1, 2, 2, 0, 1, 3, 2, 0, 1, 4, 2]
set_option maxRecDepth 1000000 in
theorem ckie_217 : ck_in0 cktb_217 ckcn_217 ckpt_217 4000 ckce_217_0 = true := by decide +kernel
theorem ckco_217 : ck_CO ckcn_217 := ck_con (tab := cktb_217) (pats := ckpt_217) (fun _ h => absurd h List.not_mem_nil) ckie_217 (fun _ h => absurd h List.not_mem_nil)
def ckpt_218 : List ck_Pt := [(((3, [(0, .ofNat 0, .ofNat 6), (1, .negSucc 2147483647, .ofNat 2147483647), (2, .ofNat 0, .ofNat 3)], [], [(79, (.ofNat 0, []), (.ofNat 0, [(1, .ofNat 1)])), (75, (.ofNat 8, []), (.ofNat 0, [(1, .ofNat 1)])), (77, (.ofNat 0, []), (.ofNat 0, [(0, .ofNat 1)])), (75, (.ofNat 9, []), (.ofNat 0, [(0, .ofNat 1)])), (76, (.ofNat 0, []), (.negSucc 0, [])), (75, (.ofNat 0, []), (.ofNat 1, []))], []), 34, [(0, (2, (.ofNat 75, []))), (1, (2, (.ofNat 18, []))), (2, (2, (.ofNat 39, []))), (3, (0, (.ofNat 0, [(2, .ofNat 1)])))], []), (.ofNat 10000000, [(2, .negSucc 0)]))]
def cktb_218 : List ck_Co := [ckcn_95]
def ckce_218_0 : List Nat := [0, 22, 2, 0, 3, 0, 1, 0, 2, 0, 1, 1, 2, 0, 0]
def ckce_218_1 : List Nat := [0, 3, 4, 0, 0, 0, 8, 3, 0, 2, 0, 1, 0, 2, 0, 1, 2, 2, 0, 3, 2, 0, 3, 0, 1, 0, 2, 0, 1, 1, 2, 2, 1, 2, 2]
set_option maxRecDepth 1000000 in
theorem ckie_218 : ck_in0 cktb_218 ckcn_218 ckpt_218 4000 ckce_218_0 = true := by decide +kernel
set_option maxRecDepth 1000000 in
theorem ckip_218_0 : ∀ p, ckpt_218[0]? = some p → ck_inP cktb_218 ckcn_218 ckpt_218 4000 p ckce_218_1 = true := by
  intro p hp
  cases hp
  decide +kernel
theorem ckco_218 : ck_CO ckcn_218 := ck_con (tab := cktb_218) (pats := ckpt_218) (List.forall_mem_cons.mpr ⟨ckco_95, (fun _ h => absurd h List.not_mem_nil)⟩) ckie_218 (List.forall_mem_cons.mpr ⟨⟨4000, ckce_218_1, ckip_218_0 _ rfl⟩, (fun _ h => absurd h List.not_mem_nil)⟩)
def ckpt_219 : List ck_Pt := [(((8, [(0, .ofNat 0, .ofNat 7), (1, .ofNat 1, .ofNat 2999), (2, .ofNat 0, .ofNat 2998), (3, .ofNat 0, .ofNat 5), (4, .negSucc 2147483647, .ofNat 2147483647), (5, .negSucc 2147483647, .ofNat 2147483647), (6, .negSucc 0, .ofNat 7), (7, .ofNat 0, .ofNat 3)], [([(1, .ofNat 1), (2, .negSucc 0)], .ofNat 1, .ofNat 2999)], [(79, (.ofNat 0, [(1, .ofNat 1)]), (.ofNat 0, [(5, .ofNat 1)])), (79, (.negSucc 0, [(1, .ofNat 1), (2, .negSucc 0)]), (.ofNat 0, [(4, .ofNat 1)])), (77, (.ofNat 0, [(1, .ofNat 1)]), (.ofNat 1, [(3, .ofNat 1)])), (76, (.ofNat 0, [(1, .ofNat 1)]), (.negSucc 0, [(1, .ofNat 1), (2, .negSucc 0)])), (75, (.ofNat 0, []), (.ofNat 0, [(1, .ofNat 1)])), (77, (.negSucc 0, [(1, .ofNat 1), (2, .negSucc 0)]), (.ofNat 0, [(3, .ofNat 1)]))], [(7, (.ofNat 0, []), (.ofNat 0, [(1, .ofNat 1)]))]), 73, [(0, (2, (.ofNat 75, []))), (1, (2, (.ofNat 18, []))), (2, (0, (.negSucc 0, [(1, .ofNat 1), (2, .negSucc 0)]))), (3, (0, (.ofNat 0, [(0, .ofNat 1)]))), (4, (0, (.ofNat 0, [(6, .ofNat 1)]))), (5, (0, (.ofNat 0, [(7, .ofNat 1)])))], []), (.ofNat 10000000, [(7, .negSucc 0)]))]
def cktb_219 : List ck_Co := []
def ckce_219_0 : List Nat := [0, 5, 0, 34, 2, 0, 8, 0, 1, 0, 2, 0, 1, 1, 2, 0, 1, 2, 2, 0, 1, 3, 2, 0, 1, 4, 2, 0, 1, 6, 2, 1, 0, 0, 0, 0, 40, 2, 0, 8, 0, 1, 0, 2, 0, 1, 1, 2, 0, 1, 2, 2, 0, 1, 3, 2, 0, 1, 4, 2, 0, 1, 7, 2, 0, 1, 5, 2, 0, 0]
def ckce_219_1 : List Nat := [0, 3, 1, 3, 7, 0, 1, 1, 2, 0, 6, 4, 0, 4, 0, 1, 0, 2, 0, 1, 1, 2, 0, 1, 2, 2, 0, 1, 3, 2, 0, 33, 0, 19, 2, 0, 8, 0, 1, 0, 2, 0, 1, 1, 2, 0, 1, 2, 2, 0, 1, 3, 2, 0, 1, 4, 2, 0, 1, 5, 2, 0, 1, 6, 2, 2, 1, 7, 2, 0, 7, 2, 0, 8, 0, 1, 0, 2, 0, 1, 1, 2, 0, 1, 2, 2, 0, 1, 3, 2, 0, 1, 4, 2, 0, 1, 5, 2, 0, 1, 6, 2, 2, 1, 7, 2]
set_option maxRecDepth 1000000 in
theorem ckie_219 : ck_in0 cktb_219 ckcn_219 ckpt_219 4000 ckce_219_0 = true := by decide +kernel
set_option maxRecDepth 1000000 in
theorem ckip_219_0 : ∀ p, ckpt_219[0]? = some p → ck_inP cktb_219 ckcn_219 ckpt_219 4000 p ckce_219_1 = true := by
  intro p hp
  cases hp
  decide +kernel
theorem ckco_219 : ck_CO ckcn_219 := ck_con (tab := cktb_219) (pats := ckpt_219) (fun _ h => absurd h List.not_mem_nil) ckie_219 (List.forall_mem_cons.mpr ⟨⟨4000, ckce_219_1, ckip_219_0 _ rfl⟩, (fun _ h => absurd h List.not_mem_nil)⟩)
def ckpt_220 : List ck_Pt := []
def cktb_220 : List ck_Co := []
def ckce_220_0 : List Nat := [0, 6, 4, 0, 3, 0, 1, 0, 2, 0, 1, 1, 2, 0, 0]
set_option maxRecDepth 1000000 in
theorem ckie_220 : ck_in0 cktb_220 ckcn_220 ckpt_220 4000 ckce_220_0 = true := by decide +kernel
theorem ckco_220 : ck_CO ckcn_220 := ck_con (tab := cktb_220) (pats := ckpt_220) (fun _ h => absurd h List.not_mem_nil) ckie_220 (fun _ h => absurd h List.not_mem_nil)
def ckpt_221 : List ck_Pt := [(((7, [(0, .ofNat 1, .ofNat 3000), (1, .ofNat 0, .ofNat 2999), (2, .ofNat 5, .ofNat 6), (3, .negSucc 2147483647, .ofNat 2147483647), (4, .ofNat 0, .ofNat 15), (5, .ofNat 0, .ofNat 100000), (6, .ofNat 0, .ofNat 8)], [([(0, .ofNat 1), (1, .negSucc 0)], .ofNat 1, .ofNat 3000), ([(0, .ofNat 1), (5, .ofNat 1)], .ofNat 0, .ofNat 3000)], [(75, (.ofNat 10, []), (.ofNat 0, [(3, .ofNat 1)])), (75, (.ofNat 0, []), (.ofNat 0, [(0, .ofNat 1), (5, .ofNat 1)])), (77, (.negSucc 0, [(0, .ofNat 1), (1, .negSucc 0)]), (.ofNat 0, [(2, .ofNat 1)]))], [(0, (.ofNat 0, []), (.ofNat 0, [])), (7, (.ofNat 0, []), (.ofNat 0, [(0, .ofNat 1), (5, .ofNat 1)]))]), 36, [(0, (2, (.ofNat 75, []))), (1, (2, (.ofNat 18, []))), (2, (2, (.ofNat 55, []))), (3, (0, (.negSucc 0, [(0, .ofNat 1), (1, .negSucc 0)]))), (4, (0, (.ofNat 0, [(2, .ofNat 1)]))), (5, (0, (.ofNat 0, []))), (6, (0, (.negSucc 0, [(4, .ofNat 1)]))), (7, (0, (.ofNat 0, [(6, .ofNat 1)])))], []), (.ofNat 10000000, [(6, .negSucc 0)])), (((8, [(0, .ofNat 1, .ofNat 3000), (1, .ofNat 0, .ofNat 2999), (2, .ofNat 5, .ofNat 5), (3, .negSucc 2147483647, .ofNat 2147483647), (4, .ofNat 0, .ofNat 15), (5, .ofNat 0, .ofNat 100000), (6, .negSucc 2147483647, .ofNat 2147483647), (7, .ofNat 0, .ofNat 8)], [([(0, .ofNat 1), (1, .negSucc 0)], .ofNat 1, .ofNat 3000), ([(0, .ofNat 1), (5, .ofNat 1)], .ofNat 0, .ofNat 3000)], [(75, (.ofNat 10, []), (.ofNat 0, [(3, .ofNat 1)])), (75, (.ofNat 0, []), (.ofNat 0, [(0, .ofNat 1), (5, .ofNat 1)])), (77, (.negSucc 0, [(0, .ofNat 1), (1, .negSucc 0)]), (.ofNat 0, [(2, .ofNat 1)]))], [(0, (.ofNat 0, []), (.ofNat 0, [])), (7, (.ofNat 0, []), (.ofNat 0, [(0, .ofNat 1), (5, .ofNat 1)]))]), 36, [(0, (2, (.ofNat 75, []))), (1, (2, (.ofNat 18, []))), (2, (2, (.ofNat 55, []))), (3, (0, (.negSucc 0, [(0, .ofNat 1), (1, .negSucc 0)]))), (4, (0, (.ofNat 0, [(2, .ofNat 1)]))), (5, (0, (.ofNat 0, [(6, .ofNat 1)]))), (6, (0, (.negSucc 0, [(4, .ofNat 1)]))), (7, (0, (.ofNat 0, [(7, .ofNat 1)])))], []), (.ofNat 10000000, [(7, .negSucc 0)]))]
def cktb_221 : List ck_Co := [ckcn_58, ckcn_219, ckcn_220]
def ckce_221_0 : List Nat := [0, 8, 3, 0, 1, 0, 1, 2, 2, 0, 14, 2, 0, 7, 0, 1, 0, 2, 0, 1, 1, 2, 0, 1, 2, 2, 0, 1, 3, 2, 0, 1, 5, 2, 0, 0, 0, 0, 0, 14, 2, 1, 8, 0, 1, 0, 2, 0, 1, 1, 2, 0, 1, 2, 2, 0, 1, 5, 2, 0, 1, 7, 2, 0, 0, 0, 1, 3, 2, 0, 0]
def ckce_221_1 : List Nat := [0, 4, 4, 0, 4, 0, 1, 0, 2, 0, 1, 1, 2, 0, 1, 2, 2, 0, 1, 5, 2, 0, 3, 4, 0, 4, 0, 1, 0, 2, 0, 1, 1, 2, 0, 1, 2, 2, 0, 1, 5, 2, 0, 3, 0, 8, 2, 0, 7, 0, 1, 0, 2, 0, 1, 1, 2, 0, 1, 2, 2, 0, 1, 3, 2, 0, 1, 4, 2, 0, 1, 5, 2, 2, 1, 6, 2, 0, 3, 0, 2, 2, 0, 7, 0, 1, 0, 2, 0, 1, 1, 2, 0, 1, 2, 2, 0, 1, 3, 2, 0, 1, 4, 2, 0, 1, 5, 2, 2, 1, 6, 2, 0, 8, 2, 0, 7, 0, 1, 0, 2, 0, 1, 1, 2, 0, 1, 2, 2, 0, 1, 3, 2, 0, 1, 4, 2, 0, 1, 5, 2, 2, 1, 6, 2]
def ckce_221_2 : List Nat := [0, 4, 4, 0, 4, 0, 1, 0, 2, 0, 1, 1, 2, 0, 1, 2, 2, 0, 1, 5, 2, 0, 3, 4, 0, 4, 0, 1, 0, 2, 0, 1, 1, 2, 0, 1, 2, 2, 0, 1, 5, 2, 0, 3, 0, 6, 0, 2, 2, 1, 8, 0, 1, 0, 2, 0, 1, 1, 2, 0, 1, 2, 2, 0, 1, 3, 2, 0, 1, 4, 2, 0, 1, 5, 2, 0, 1, 6, 2, 2, 1, 7, 2, 0, 4, 0, 4, 3, 1, 4, 0, 1, 7, 2, 0, 2, 0, 2, 5, 2, 0, 2, 1, 2, 5, 2, 0, 1, 2, 2, 0, 5, 3, 2, 2, 0, 1, 7, 2, 2, 2, 0, 2, 5, 2, 0, 2, 2, 1, 8, 0, 1, 0, 2, 0, 1, 1, 2, 0, 1, 2, 2, 0, 1, 3, 2, 0, 1, 4, 2, 2, 1, 5, 2, 0, 1, 6, 2, 2, 1, 7, 2, 0, 6, 2, 1, 8, 0, 1, 0, 2, 0, 1, 1, 2, 0, 1, 2, 2, 0, 1, 3, 2, 0, 1, 4, 2, 0, 1, 5, 2, 0, 1, 6, 2, 2, 1, 7, 2, 0, 3, 0, 2, 2, 1, 8, 0, 1, 0, 2, 0, 1, 1, 2, 0, 1, 2, 2, 0, 1, 3, 2, 0, 1, 4, 2, 0, 1, 5, 2, 0, 1, 6, 2, 2, 1, 7, 2, 0, 6, 0, 2, 2, 1, 8, 0, 1, 0, 2, 0, 1, 1, 2, 0, 1, 2, 2, 0, 1, 3, 2, 0, 1, 4, 2, 0, 1, 5, 2, 0, 1, 6, 2, 2, 1, 7, 2, 0, 4, 0, 4, 3, 1, 4, 0, 1, 7, 2, 0, 2, 0, 2, 5, 2, 0, 2, 1, 2, 5, 2, 0, 1, 2, 2, 0, 5, 3, 2, 2, 0, 1, 7, 2, 2, 2, 0, 2, 5, 2, 0, 2, 2, 1, 8, 0, 1, 0, 2, 0, 1, 1, 2, 0, 1, 2, 2, 0, 1, 3, 2, 0, 1, 4, 2, 2, 1, 5, 2, 0, 1, 6, 2, 2, 1, 7, 2, 0, 6, 2, 1, 8, 0, 1, 0, 2, 0, 1, 1, 2, 0, 1, 2, 2, 0, 1, 3, 2, 0, 1, 4, 2, 0, 1, 5, 2, 0, 1, 6, 2, 2, 1, 7, 2]
set_option maxRecDepth 1000000 in
theorem ckie_221 : ck_in0 cktb_221 ckcn_221 ckpt_221 4000 ckce_221_0 = true := by decide +kernel
set_option maxRecDepth 1000000 in
theorem ckip_221_0 : ∀ p, ckpt_221[0]? = some p → ck_inP cktb_221 ckcn_221 ckpt_221 4000 p ckce_221_1 = true := by
  intro p hp
  cases hp
  decide +kernel
set_option maxRecDepth 1000000 in
theorem ckip_221_1 : ∀ p, ckpt_221[1]? = some p → ck_inP cktb_221 ckcn_221 ckpt_221 4000 p ckce_221_2 = true := by
  intro p hp
  cases hp
  decide +kernel
theorem ckco_221 : ck_CO ckcn_221 := ck_con (tab := cktb_221) (pats := ckpt_221) (List.forall_mem_cons.mpr ⟨ckco_58, (List.forall_mem_cons.mpr ⟨ckco_219, (List.forall_mem_cons.mpr ⟨ckco_220, (fun _ h => absurd h List.not_mem_nil)⟩)⟩)⟩) ckie_221 (List.forall_mem_cons.mpr ⟨⟨4000, ckce_221_1, ckip_221_0 _ rfl⟩, (List.forall_mem_cons.mpr ⟨⟨4000, ckce_221_2, ckip_221_1 _ rfl⟩, (fun _ h => absurd h List.not_mem_nil)⟩)⟩)
def ckpt_222 : List ck_Pt := []
def cktb_222 : List ck_Co := [ckcn_101, ckcn_221]
def ckce_222_0 : List Nat := [0, 6, 4, 0, 4, 0, 1, 0, 2, 0, 1, 1, 2, 0, 1, 2, 2, 0, 0, 0, 3, 3, 0, 2, 0, 1, 2, 2, 0, 1, 0, 2, 0, 7, 3, 1, 3, 0, 1, 1, 2, 0, 0, 2, 1, 2, 2, 4, 0, 4, 0, 1, 0, 2, 0, 1, 1, 2, 0, 1, 2, 2, 0, 1, 4, 2]
set_option maxRecDepth 1000000 in
theorem ckie_222 : ck_in0 cktb_222 ckcn_222 ckpt_222 4000 ckce_222_0 = true := by decide +kernel
theorem ckco_222 : ck_CO ckcn_222 := ck_con (tab := cktb_222) (pats := ckpt_222) (List.forall_mem_cons.mpr ⟨ckco_101, (List.forall_mem_cons.mpr ⟨ckco_221, (fun _ h => absurd h List.not_mem_nil)⟩)⟩) ckie_222 (fun _ h => absurd h List.not_mem_nil)
def ckpt_223 : List ck_Pt := [(((7, [(0, .ofNat 1, .ofNat 3000), (1, .ofNat 0, .ofNat 2999), (2, .ofNat 4, .ofNat 6), (3, .negSucc 2147483647, .ofNat 2147483647), (4, .ofNat 0, .ofNat 15), (5, .ofNat 0, .ofNat 100000), (6, .ofNat 0, .ofNat 8)], [([(0, .ofNat 1), (1, .negSucc 0)], .ofNat 1, .ofNat 3000), ([(0, .ofNat 1), (5, .ofNat 1)], .ofNat 0, .ofNat 3000)], [(75, (.ofNat 10, []), (.ofNat 0, [(3, .ofNat 1)])), (75, (.ofNat 0, []), (.ofNat 0, [(0, .ofNat 1), (5, .ofNat 1)])), (77, (.negSucc 0, [(0, .ofNat 1), (1, .negSucc 0)]), (.ofNat 0, [(2, .ofNat 1)]))], [(0, (.ofNat 0, []), (.ofNat 0, [])), (7, (.ofNat 0, []), (.ofNat 0, [(0, .ofNat 1), (5, .ofNat 1)]))]), 36, [(0, (2, (.ofNat 75, []))), (1, (2, (.ofNat 18, []))), (2, (2, (.ofNat 55, []))), (3, (0, (.negSucc 0, [(0, .ofNat 1), (1, .negSucc 0)]))), (4, (0, (.ofNat 0, [(2, .ofNat 1)]))), (5, (0, (.ofNat 0, []))), (6, (0, (.negSucc 0, [(4, .ofNat 1)]))), (7, (0, (.ofNat 0, [(6, .ofNat 1)])))], []), (.ofNat 10000000, [(6, .negSucc 0)])), (((8, [(0, .ofNat 1, .ofNat 3000), (1, .ofNat 0, .ofNat 2999), (2, .ofNat 4, .ofNat 5), (3, .negSucc 2147483647, .ofNat 2147483647), (4, .ofNat 0, .ofNat 15), (5, .ofNat 0, .ofNat 100000), (6, .negSucc 2147483647, .ofNat 2147483647), (7, .ofNat 0, .ofNat 8)], [([(0, .ofNat 1), (1, .negSucc 0)], .ofNat 1, .ofNat 3000), ([(0, .ofNat 1), (5, .ofNat 1)], .ofNat 0, .ofNat 3000)], [(75, (.ofNat 10, []), (.ofNat 0, [(3, .ofNat 1)])), (75, (.ofNat 0, []), (.ofNat 0, [(0, .ofNat 1), (5, .ofNat 1)])), (77, (.negSucc 0, [(0, .ofNat 1), (1, .negSucc 0)]), (.ofNat 0, [(2, .ofNat 1)]))], [(0, (.ofNat 0, []), (.ofNat 0, [])), (7, (.ofNat 0, []), (.ofNat 0, [(0, .ofNat 1), (5, .ofNat 1)]))]), 36, [(0, (2, (.ofNat 75, []))), (1, (2, (.ofNat 18, []))), (2, (2, (.ofNat 55, []))), (3, (0, (.negSucc 0, [(0, .ofNat 1), (1, .negSucc 0)]))), (4, (0, (.ofNat 0, [(2, .ofNat 1)]))), (5, (0, (.ofNat 0, [(6, .ofNat 1)]))), (6, (0, (.negSucc 0, [(4, .ofNat 1)]))), (7, (0, (.ofNat 0, [(7, .ofNat 1)])))], []), (.ofNat 10000000, [(7, .negSucc 0)]))]
def cktb_223 : List ck_Co := [ckcn_58, ckcn_219, ckcn_222]
def ckce_223_0 : List Nat := [0, 8, 3, 0, 1, 0, 1, 2, 2, 0, 14, 2, 0, 7, 0, 1, 0, 2, 0, 1, 1, 2, 0, 1, 2, 2, 0, 1, 3, 2, 0, 1, 5, 2, 0, 0, 0, 0, 0, 14, 2, 1, 8, 0, 1, 0, 2, 0, 1, 1, 2, 0, 1, 2, 2, 0, 1, 5, 2, 0, 1, 7, 2, 0, 0, 0, 1, 3, 2, 0, 0]
def ckce_223_1 : List Nat := [0, 4, 4, 0, 4, 0, 1, 0, 2, 0, 1, 1, 2, 0, 1, 2, 2, 0, 1, 5, 2, 0, 3, 4, 0, 4, 0, 1, 0, 2, 0, 1, 1, 2, 0, 1, 2, 2, 0, 1, 5, 2, 0, 3, 0, 8, 2, 0, 7, 0, 1, 0, 2, 0, 1, 1, 2, 0, 1, 2, 2, 0, 1, 3, 2, 0, 1, 4, 2, 0, 1, 5, 2, 2, 1, 6, 2, 0, 3, 0, 2, 2, 0, 7, 0, 1, 0, 2, 0, 1, 1, 2, 0, 1, 2, 2, 0, 1, 3, 2, 0, 1, 4, 2, 0, 1, 5, 2, 2, 1, 6, 2, 0, 8, 2, 0, 7, 0, 1, 0, 2, 0, 1, 1, 2, 0, 1, 2, 2, 0, 1, 3, 2, 0, 1, 4, 2, 0, 1, 5, 2, 2, 1, 6, 2]
def ckce_223_2 : List Nat := [0, 4, 4, 0, 4, 0, 1, 0, 2, 0, 1, 1, 2, 0, 1, 2, 2, 0, 1, 5, 2, 0, 3, 4, 0, 4, 0, 1, 0, 2, 0, 1, 1, 2, 0, 1, 2, 2, 0, 1, 5, 2, 0, 3, 0, 6, 0, 2, 2, 1, 8, 0, 1, 0, 2, 0, 1, 1, 2, 0, 1, 2, 2, 0, 1, 3, 2, 0, 1, 4, 2, 0, 1, 5, 2, 0, 1, 6, 2, 2, 1, 7, 2, 0, 4, 0, 4, 3, 1, 4, 0, 1, 7, 2, 0, 2, 0, 2, 5, 2, 0, 2, 1, 2, 5, 2, 0, 1, 2, 2, 0, 5, 3, 2, 3, 0, 1, 7, 2, 2, 2, 0, 2, 5, 2, 0, 1, 2, 2, 0, 2, 2, 1, 8, 0, 1, 0, 2, 0, 1, 1, 2, 0, 1, 2, 2, 0, 1, 3, 2, 0, 1, 4, 2, 2, 2, 5, 2, 12, 2, 0, 1, 6, 2, 2, 1, 7, 2, 0, 6, 2, 1, 8, 0, 1, 0, 2, 0, 1, 1, 2, 0, 1, 2, 2, 0, 1, 3, 2, 0, 1, 4, 2, 0, 1, 5, 2, 0, 1, 6, 2, 2, 1, 7, 2, 0, 3, 0, 2, 2, 1, 8, 0, 1, 0, 2, 0, 1, 1, 2, 0, 1, 2, 2, 0, 1, 3, 2, 0, 1, 4, 2, 0, 1, 5, 2, 0, 1, 6, 2, 2, 1, 7, 2, 0, 6, 0, 2, 2, 1, 8, 0, 1, 0, 2, 0, 1, 1, 2, 0, 1, 2, 2, 0, 1, 3, 2, 0, 1, 4, 2, 0, 1, 5, 2, 0, 1, 6, 2, 2, 1, 7, 2, 0, 4, 0, 4, 3, 1, 4, 0, 1, 7, 2, 0, 2, 0, 2, 5, 2, 0, 2, 1, 2, 5, 2, 0, 1, 2, 2, 0, 5, 3, 2, 3, 0, 1, 7, 2, 2, 2, 0, 2, 5, 2, 0, 1, 2, 2, 0, 2, 2, 1, 8, 0, 1, 0, 2, 0, 1, 1, 2, 0, 1, 2, 2, 0, 1, 3, 2, 0, 1, 4, 2, 2, 2, 5, 2, 12, 2, 0, 1, 6, 2, 2, 1, 7, 2, 0, 6, 2, 1, 8, 0, 1, 0, 2, 0, 1, 1, 2, 0, 1, 2, 2, 0, 1, 3, 2, 0, 1, 4, 2, 0, 1, 5, 2, 0, 1, 6, 2, 2, 1, 7, 2]
set_option maxRecDepth 1000000 in
theorem ckie_223 : ck_in0 cktb_223 ckcn_223 ckpt_223 4000 ckce_223_0 = true := by decide +kernel
set_option maxRecDepth 1000000 in
theorem ckip_223_0 : ∀ p, ckpt_223[0]? = some p → ck_inP cktb_223 ckcn_223 ckpt_223 4000 p ckce_223_1 = true := by
  intro p hp
  cases hp
  decide +kernel
set_option maxRecDepth 1000000 in
theorem ckip_223_1 : ∀ p, ckpt_223[1]? = some p → ck_inP cktb_223 ckcn_223 ckpt_223 4000 p ckce_223_2 = true := by
  intro p hp
  cases hp
  decide +kernel
theorem ckco_223 : ck_CO ckcn_223 := ck_con (tab := cktb_223) (pats := ckpt_223) (List.forall_mem_cons.mpr ⟨ckco_58, (List.forall_mem_cons.mpr ⟨ckco_219, (List.forall_mem_cons.mpr ⟨ckco_222, (fun _ h => absurd h List.not_mem_nil)⟩)⟩)⟩) ckie_223 (List.forall_mem_cons.mpr ⟨⟨4000, ckce_223_1, ckip_223_0 _ rfl⟩, (List.forall_mem_cons.mpr ⟨⟨4000, ckce_223_2, ckip_223_1 _ rfl⟩, (fun _ h => absurd h List.not_mem_nil)⟩)⟩)
def ckpt_224 : List ck_Pt := []
def cktb_224 : List ck_Co := [ckcn_101, ckcn_223]
def ckce_224_0 : List Nat := [0, 6, 4, 0, 4, 0, 1, 0, 2, 0, 1, 1, 2, 0, 1, 2, 2, 0, 0, 0, 3, 3, 0, 2, 0, 1, 2, 2, 0, 1, 0, 2, 0, 7, 3, 1, 3, 0, 1, 1, 2, 0, 0, 2, 1, 2, 2, 4, 0, 4, 0, 1, 0, 2, 0, 1, 1, 2, 0, 1, 2, 2, 0, 1, 4, 2]
set_option maxRecDepth 1000000 in
theorem ckie_224 : ck_in0 cktb_224 ckcn_224 ckpt_224 4000 ckce_224_0 = true := by decide +kernel
theorem ckco_224 : ck_CO ckcn_224 := ck_con (tab := cktb_224) (pats := ckpt_224) (List.forall_mem_cons.mpr ⟨ckco_101, (List.forall_mem_cons.mpr ⟨ckco_223, (fun _ h => absurd h List.not_mem_nil)⟩)⟩) ckie_224 (fun _ h => absurd h List.not_mem_nil)
def ckpt_225 : List ck_Pt := [(((7, [(0, .ofNat 1, .ofNat 3000), (1, .ofNat 0, .ofNat 2999), (2, .ofNat 3, .ofNat 6), (3, .negSucc 2147483647, .ofNat 2147483647), (4, .ofNat 0, .ofNat 15), (5, .ofNat 0, .ofNat 100000), (6, .ofNat 0, .ofNat 8)], [([(0, .ofNat 1), (1, .negSucc 0)], .ofNat 1, .ofNat 3000), ([(0, .ofNat 1), (5, .ofNat 1)], .ofNat 0, .ofNat 3000)], [(75, (.ofNat 10, []), (.ofNat 0, [(3, .ofNat 1)])), (75, (.ofNat 0, []), (.ofNat 0, [(0, .ofNat 1), (5, .ofNat 1)])), (77, (.negSucc 0, [(0, .ofNat 1), (1, .negSucc 0)]), (.ofNat 0, [(2, .ofNat 1)]))], [(0, (.ofNat 0, []), (.ofNat 0, [])), (7, (.ofNat 0, []), (.ofNat 0, [(0, .ofNat 1), (5, .ofNat 1)]))]), 36, [(0, (2, (.ofNat 75, []))), (1, (2, (.ofNat 18, []))), (2, (2, (.ofNat 55, []))), (3, (0, (.negSucc 0, [(0, .ofNat 1), (1, .negSucc 0)]))), (4, (0, (.ofNat 0, [(2, .ofNat 1)]))), (5, (0, (.ofNat 0, []))), (6, (0, (.negSucc 0, [(4, .ofNat 1)]))), (7, (0, (.ofNat 0, [(6, .ofNat 1)])))], []), (.ofNat 10000000, [(6, .negSucc 0)])), (((8, [(0, .ofNat 1, .ofNat 3000), (1, .ofNat 0, .ofNat 2999), (2, .ofNat 3, .ofNat 5), (3, .negSucc 2147483647, .ofNat 2147483647), (4, .ofNat 0, .ofNat 15), (5, .ofNat 0, .ofNat 100000), (6, .negSucc 2147483647, .ofNat 2147483647), (7, .ofNat 0, .ofNat 8)], [([(0, .ofNat 1), (1, .negSucc 0)], .ofNat 1, .ofNat 3000), ([(0, .ofNat 1), (5, .ofNat 1)], .ofNat 0, .ofNat 3000)], [(75, (.ofNat 10, []), (.ofNat 0, [(3, .ofNat 1)])), (75, (.ofNat 0, []), (.ofNat 0, [(0, .ofNat 1), (5, .ofNat 1)])), (77, (.negSucc 0, [(0, .ofNat 1), (1, .negSucc 0)]), (.ofNat 0, [(2, .ofNat 1)]))], [(0, (.ofNat 0, []), (.ofNat 0, [])), (7, (.ofNat 0, []), (.ofNat 0, [(0, .ofNat 1), (5, .ofNat 1)]))]), 36, [(0, (2, (.ofNat 75, []))), (1, (2, (.ofNat 18, []))), (2, (2, (.ofNat 55, []))), (3, (0, (.negSucc 0, [(0, .ofNat 1), (1, .negSucc 0)]))), (4, (0, (.ofNat 0, [(2, .ofNat 1)]))), (5, (0, (.ofNat 0, [(6, .ofNat 1)]))), (6, (0, (.negSucc 0, [(4, .ofNat 1)]))), (7, (0, (.ofNat 0, [(7, .ofNat 1)])))], []), (.ofNat 10000000, [(7, .negSucc 0)]))]
def cktb_225 : List ck_Co := [ckcn_58, ckcn_219, ckcn_224]
def ckce_225_0 : List Nat := [0, 8, 3, 0, 1, 0, 1, 2, 2, 0, 14, 2, 0, 7, 0, 1, 0, 2, 0, 1, 1, 2, 0, 1, 2, 2, 0, 1, 3, 2, 0, 1, 5, 2, 0, 0, 0, 0, 0, 14, 2, 1, 8, 0, 1, 0, 2, 0, 1, 1, 2, 0, 1, 2, 2, 0, 1, 5, 2, 0, 1, 7, 2, 0, 0, 0, 1, 3, 2, 0, 0]
def ckce_225_1 : List Nat := [0, 4, 4, 0, 4, 0, 1, 0, 2, 0, 1, 1, 2, 0, 1, 2, 2, 0, 1, 5, 2, 0, 3, 4, 0, 4, 0, 1, 0, 2, 0, 1, 1, 2, 0, 1, 2, 2, 0, 1, 5, 2, 0, 3, 0, 8, 2, 0, 7, 0, 1, 0, 2, 0, 1, 1, 2, 0, 1, 2, 2, 0, 1, 3, 2, 0, 1, 4, 2, 0, 1, 5, 2, 2, 1, 6, 2, 0, 3, 0, 2, 2, 0, 7, 0, 1, 0, 2, 0, 1, 1, 2, 0, 1, 2, 2, 0, 1, 3, 2, 0, 1, 4, 2, 0, 1, 5, 2, 2, 1, 6, 2, 0, 8, 2, 0, 7, 0, 1, 0, 2, 0, 1, 1, 2, 0, 1, 2, 2, 0, 1, 3, 2, 0, 1, 4, 2, 0, 1, 5, 2, 2, 1, 6, 2]
def ckce_225_2 : List Nat := [0, 4, 4, 0, 4, 0, 1, 0, 2, 0, 1, 1, 2, 0, 1, 2, 2, 0, 1, 5, 2, 0, 3, 4, 0, 4, 0, 1, 0, 2, 0, 1, 1, 2, 0, 1, 2, 2, 0, 1, 5, 2, 0, 3, 0, 6, 0, 2, 2, 1, 8, 0, 1, 0, 2, 0, 1, 1, 2, 0, 1, 2, 2, 0, 1, 3, 2, 0, 1, 4, 2, 0, 1, 5, 2, 0, 1, 6, 2, 2, 1, 7, 2, 0, 4, 0, 4, 3, 1, 4, 0, 1, 7, 2, 0, 2, 0, 2, 5, 2, 0, 2, 1, 2, 5, 2, 0, 1, 2, 2, 0, 5, 3, 2, 3, 0, 1, 7, 2, 2, 2, 0, 2, 5, 2, 0, 1, 2, 2, 0, 2, 2, 1, 8, 0, 1, 0, 2, 0, 1, 1, 2, 0, 1, 2, 2, 0, 1, 3, 2, 0, 1, 4, 2, 2, 2, 5, 2, 12, 2, 0, 1, 6, 2, 2, 1, 7, 2, 0, 6, 2, 1, 8, 0, 1, 0, 2, 0, 1, 1, 2, 0, 1, 2, 2, 0, 1, 3, 2, 0, 1, 4, 2, 0, 1, 5, 2, 0, 1, 6, 2, 2, 1, 7, 2, 0, 3, 0, 2, 2, 1, 8, 0, 1, 0, 2, 0, 1, 1, 2, 0, 1, 2, 2, 0, 1, 3, 2, 0, 1, 4, 2, 0, 1, 5, 2, 0, 1, 6, 2, 2, 1, 7, 2, 0, 6, 0, 2, 2, 1, 8, 0, 1, 0, 2, 0, 1, 1, 2, 0, 1, 2, 2, 0, 1, 3, 2, 0, 1, 4, 2, 0, 1, 5, 2, 0, 1, 6, 2, 2, 1, 7, 2, 0, 4, 0, 4, 3, 1, 4, 0, 1, 7, 2, 0, 2, 0, 2, 5, 2, 0, 2, 1, 2, 5, 2, 0, 1, 2, 2, 0, 5, 3, 2, 3, 0, 1, 7, 2, 2, 2, 0, 2, 5, 2, 0, 1, 2, 2, 0, 2, 2, 1, 8, 0, 1, 0, 2, 0, 1, 1, 2, 0, 1, 2, 2, 0, 1, 3, 2, 0, 1, 4, 2, 2, 2, 5, 2, 12, 2, 0, 1, 6, 2, 2, 1, 7, 2, 0, 6, 2, 1, 8, 0, 1, 0, 2, 0, 1, 1, 2, 0, 1, 2, 2, 0, 1, 3, 2, 0, 1, 4, 2, 0, 1, 5, 2, 0, 1, 6, 2, 2, 1, 7, 2]
set_option maxRecDepth 1000000 in
theorem ckie_225 : ck_in0 cktb_225 ckcn_225 ckpt_225 4000 ckce_225_0 = true := by decide +kernel
set_option maxRecDepth 1000000 in
theorem ckip_225_0 : ∀ p, ckpt_225[0]? = some p → ck_inP cktb_225 ckcn_225 ckpt_225 4000 p ckce_225_1 = true := by
  intro p hp
  cases hp
  decide +kernel
set_option maxRecDepth 1000000 in
theorem ckip_225_1 : ∀ p, ckpt_225[1]? = some p → ck_inP cktb_225 ckcn_225 ckpt_225 4000 p ckce_225_2 = true := by
  intro p hp
  cases hp
  decide +kernel
theorem ckco_225 : ck_CO ckcn_225 := ck_con (tab := cktb_225) (pats := ckpt_225) (List.forall_mem_cons.mpr ⟨ckco_58, (List.forall_mem_cons.mpr ⟨ckco_219, (List.forall_mem_cons.mpr ⟨ckco_224, (fun _ h => absurd h List.not_mem_nil)⟩)⟩)⟩) ckie_225 (List.forall_mem_cons.mpr ⟨⟨4000, ckce_225_1, ckip_225_0 _ rfl⟩, (List.forall_mem_cons.mpr ⟨⟨4000, ckce_225_2, ckip_225_1 _ rfl⟩, (fun _ h => absurd h List.not_mem_nil)⟩)⟩)
def ckpt_226 : List ck_Pt := []
def cktb_226 : List ck_Co := [ckcn_101, ckcn_225]
def ckce_226_0 : List Nat := [0, 6, 4, 0, 4, 0, 1, 0, 2, 0, 1, 1, 2, 0, 1, 2, 2, 0, 0, 0, 3, 3, 0, 2, 0, 1, 2, 2, 0, 1, 0, 2, 0, 7, 3, 1, 3, 0, 1, 1, 2, 0, 0, 2, 1, 2, 2, 4, 0, 4, 0, 1, 0, 2, 0, 1, 1, 2, 0, 1, 2, 2, 0, 1, 4, 2]
set_option maxRecDepth 1000000 in
theorem ckie_226 : ck_in0 cktb_226 ckcn_226 ckpt_226 4000 ckce_226_0 = true := by decide +kernel
theorem ckco_226 : ck_CO ckcn_226 := ck_con (tab := cktb_226) (pats := ckpt_226) (List.forall_mem_cons.mpr ⟨ckco_101, (List.forall_mem_cons.mpr ⟨ckco_225, (fun _ h => absurd h List.not_mem_nil)⟩)⟩) ckie_226 (fun _ h => absurd h List.not_mem_nil)
def ckpt_227 : List ck_Pt := [(((7, [(0, .ofNat 1, .ofNat 3000), (1, .ofNat 0, .ofNat 2999), (2, .ofNat 2, .ofNat 6), (3, .negSucc 2147483647, .ofNat 2147483647), (4, .ofNat 0, .ofNat 15), (5, .ofNat 0, .ofNat 100000), (6, .ofNat 0, .ofNat 8)], [([(0, .ofNat 1), (1, .negSucc 0)], .ofNat 1, .ofNat 3000), ([(0, .ofNat 1), (5, .ofNat 1)], .ofNat 0, .ofNat 3000)], [(75, (.ofNat 10, []), (.ofNat 0, [(3, .ofNat 1)])), (75, (.ofNat 0, []), (.ofNat 0, [(0, .ofNat 1), (5, .ofNat 1)])), (77, (.negSucc 0, [(0, .ofNat 1), (1, .negSucc 0)]), (.ofNat 0, [(2, .ofNat 1)]))], [(0, (.ofNat 0, []), (.ofNat 0, [])), (7, (.ofNat 0, []), (.ofNat 0, [(0, .ofNat 1), (5, .ofNat 1)]))]), 36, [(0, (2, (.ofNat 75, []))), (1, (2, (.ofNat 18, []))), (2, (2, (.ofNat 55, []))), (3, (0, (.negSucc 0, [(0, .ofNat 1), (1, .negSucc 0)]))), (4, (0, (.ofNat 0, [(2, .ofNat 1)]))), (5, (0, (.ofNat 0, []))), (6, (0, (.negSucc 0, [(4, .ofNat 1)]))), (7, (0, (.ofNat 0, [(6, .ofNat 1)])))], []), (.ofNat 10000000, [(6, .negSucc 0)])), (((8, [(0, .ofNat 1, .ofNat 3000), (1, .ofNat 0, .ofNat 2999), (2, .ofNat 2, .ofNat 5), (3, .negSucc 2147483647, .ofNat 2147483647), (4, .ofNat 0, .ofNat 15), (5, .ofNat 0, .ofNat 100000), (6, .negSucc 2147483647, .ofNat 2147483647), (7, .ofNat 0, .ofNat 8)], [([(0, .ofNat 1), (1, .negSucc 0)], .ofNat 1, .ofNat 3000), ([(0, .ofNat 1), (5, .ofNat 1)], .ofNat 0, .ofNat 3000)], [(75, (.ofNat 10, []), (.ofNat 0, [(3, .ofNat 1)])), (75, (.ofNat 0, []), (.ofNat 0, [(0, .ofNat 1), (5, .ofNat 1)])), (77, (.negSucc 0, [(0, .ofNat 1), (1, .negSucc 0)]), (.ofNat 0, [(2, .ofNat 1)]))], [(0, (.ofNat 0, []), (.ofNat 0, [])), (7, (.ofNat 0, []), (.ofNat 0, [(0, .ofNat 1), (5, .ofNat 1)]))]), 36, [(0, (2, (.ofNat 75, []))), (1, (2, (.ofNat 18, []))), (2, (2, (.ofNat 55, []))), (3, (0, (.negSucc 0, [(0, .ofNat 1), (1, .negSucc 0)]))), (4, (0, (.ofNat 0, [(2, .ofNat 1)]))), (5, (0, (.ofNat 0, [(6, .ofNat 1)]))), (6, (0, (.negSucc 0, [(4, .ofNat 1)]))), (7, (0, (.ofNat 0, [(7, .ofNat 1)])))], []), (.ofNat 10000000, [(7, .negSucc 0)]))]
def cktb_227 : List ck_Co := [ckcn_58, ckcn_219, ckcn_226]
def ckce_227_0 : List Nat := [0, 8, 3, 0, 1, 0, 1, 2, 2, 0, 14, 2, 0, 7, 0, 1, 0, 2, 0, 1, 1, 2, 0, 1, 2, 2, 0, 1, 3, 2, 0, 1, 5, 2, 0, 0, 0, 0, 0, 14, 2, 1, 8, 0, 1, 0, 2, 0, 1, 1, 2, 0, 1, 2, 2, 0, 1, 5, 2, 0, 1, 7, 2, 0, 0, 0, 1, 3, 2, 0, 0]
def ckce_227_1 : List Nat := [0, 4, 4, 0, 4, 0, 1, 0, 2, 0, 1, 1, 2, 0, 1, 2, 2, 0, 1, 5, 2, 0, 3, 4, 0, 4, 0, 1, 0, 2, 0, 1, 1, 2, 0, 1, 2, 2, 0, 1, 5, 2, 0, 3, 0, 8, 2, 0, 7, 0, 1, 0, 2, 0, 1, 1, 2, 0, 1, 2, 2, 0, 1, 3, 2, 0, 1, 4, 2, 0, 1, 5, 2, 2, 1, 6, 2, 0, 3, 0, 2, 2, 0, 7, 0, 1, 0, 2, 0, 1, 1, 2, 0, 1, 2, 2, 0, 1, 3, 2, 0, 1, 4, 2, 0, 1, 5, 2, 2, 1, 6, 2, 0, 8, 2, 0, 7, 0, 1, 0, 2, 0, 1, 1, 2, 0, 1, 2, 2, 0, 1, 3, 2, 0, 1, 4, 2, 0, 1, 5, 2, 2, 1, 6, 2]
def ckce_227_2 : List Nat := [0, 4, 4, 0, 4, 0, 1, 0, 2, 0, 1, 1, 2, 0, 1, 2, 2, 0, 1, 5, 2, 0, 3, 4, 0, 4, 0, 1, 0, 2, 0, 1, 1, 2, 0, 1, 2, 2, 0, 1, 5, 2, 0, 3, 0, 6, 0, 2, 2, 1, 8, 0, 1, 0, 2, 0, 1, 1, 2, 0, 1, 2, 2, 0, 1, 3, 2, 0, 1, 4, 2, 0, 1, 5, 2, 0, 1, 6, 2, 2, 1, 7, 2, 0, 4, 0, 4, 3, 1, 4, 0, 1, 7, 2, 0, 2, 0, 2, 5, 2, 0, 2, 1, 2, 5, 2, 0, 1, 2, 2, 0, 5, 3, 2, 3, 0, 1, 7, 2, 2, 2, 0, 2, 5, 2, 0, 1, 2, 2, 0, 2, 2, 1, 8, 0, 1, 0, 2, 0, 1, 1, 2, 0, 1, 2, 2, 0, 1, 3, 2, 0, 1, 4, 2, 2, 2, 5, 2, 12, 2, 0, 1, 6, 2, 2, 1, 7, 2, 0, 6, 2, 1, 8, 0, 1, 0, 2, 0, 1, 1, 2, 0, 1, 2, 2, 0, 1, 3, 2, 0, 1, 4, 2, 0, 1, 5, 2, 0, 1, 6, 2, 2, 1, 7, 2, 0, 3, 0, 2, 2, 1, 8, 0, 1, 0, 2, 0, 1, 1, 2, 0, 1, 2, 2, 0, 1, 3, 2, 0, 1, 4, 2, 0, 1, 5, 2, 0, 1, 6, 2, 2, 1, 7, 2, 0, 6, 0, 2, 2, 1, 8, 0, 1, 0, 2, 0, 1, 1, 2, 0, 1, 2, 2, 0, 1, 3, 2, 0, 1, 4, 2, 0, 1, 5, 2, 0, 1, 6, 2, 2, 1, 7, 2, 0, 4, 0, 4, 3, 1, 4, 0, 1, 7, 2, 0, 2, 0, 2, 5, 2, 0, 2, 1, 2, 5, 2, 0, 1, 2, 2, 0, 5, 3, 2, 3, 0, 1, 7, 2, 2, 2, 0, 2, 5, 2, 0, 1, 2, 2, 0, 2, 2, 1, 8, 0, 1, 0, 2, 0, 1, 1, 2, 0, 1, 2, 2, 0, 1, 3, 2, 0, 1, 4, 2, 2, 2, 5, 2, 12, 2, 0, 1, 6, 2, 2, 1, 7, 2, 0, 6, 2, 1, 8, 0, 1, 0, 2, 0, 1, 1, 2, 0, 1, 2, 2, 0, 1, 3, 2, 0, 1, 4, 2, 0, 1, 5, 2, 0, 1, 6, 2, 2, 1, 7, 2]
set_option maxRecDepth 1000000 in
theorem ckie_227 : ck_in0 cktb_227 ckcn_227 ckpt_227 4000 ckce_227_0 = true := by decide +kernel
set_option maxRecDepth 1000000 in
theorem ckip_227_0 : ∀ p, ckpt_227[0]? = some p → ck_inP cktb_227 ckcn_227 ckpt_227 4000 p ckce_227_1 = true := by
  intro p hp
  cases hp
  decide +kernel
set_option maxRecDepth 1000000 in
theorem ckip_227_1 : ∀ p, ckpt_227[1]? = some p → ck_inP cktb_227 ckcn_227 ckpt_227 4000 p ckce_227_2 = true := by
  intro p hp
  cases hp
  decide +kernel
theorem ckco_227 : ck_CO ckcn_227 := ck_con (tab := cktb_227) (pats := ckpt_227) (List.forall_mem_cons.mpr ⟨ckco_58, (List.forall_mem_cons.mpr ⟨ckco_219, (List.forall_mem_cons.mpr ⟨ckco_226, (fun _ h => absurd h List.not_mem_nil)⟩)⟩)⟩) ckie_227 (List.forall_mem_cons.mpr ⟨⟨4000, ckce_227_1, ckip_227_0 _ rfl⟩, (List.forall_mem_cons.mpr ⟨⟨4000, ckce_227_2, ckip_227_1 _ rfl⟩, (fun _ h => absurd h List.not_mem_nil)⟩)⟩)
def ckpt_228 : List ck_Pt := []
def cktb_228 : List ck_Co := [ckcn_101, ckcn_227]
def ckce_228_0 : List Nat := [0, 6, 4, 0, 4, 0, 1, 0, 2, 0, 1, 1, 2, 0, 1, 2, 2, 0, 0, 0, 3, 3, 0, 2, 0, 1, 2, 2, 0, 1, 0, 2, 0, 7, 3, 1, 3, 0, 1, 1, 2, 0, 0, 2, 1, 2, 2, 4, 0, 4, 0, 1, 0, 2, 0, 1, 1, 2, 0, 1, 2, 2, 0, 1, 4, 2]
set_option maxRecDepth 1000000 in
theorem ckie_228 : ck_in0 cktb_228 ckcn_228 ckpt_228 4000 ckce_228_0 = true := by decide +kernel
theorem ckco_228 : ck_CO ckcn_228 := ck_con (tab := cktb_228) (pats := ckpt_228) (List.forall_mem_cons.mpr ⟨ckco_101, (List.forall_mem_cons.mpr ⟨ckco_227, (fun _ h => absurd h List.not_mem_nil)⟩)⟩) ckie_228 (fun _ h => absurd h List.not_mem_nil)
def ckpt_229 : List ck_Pt := [(((7, [(0, .ofNat 1, .ofNat 3000), (1, .ofNat 0, .ofNat 2999), (2, .ofNat 1, .ofNat 6), (3, .negSucc 2147483647, .ofNat 2147483647), (4, .ofNat 0, .ofNat 15), (5, .ofNat 0, .ofNat 100000), (6, .ofNat 0, .ofNat 8)], [([(0, .ofNat 1), (1, .negSucc 0)], .ofNat 1, .ofNat 3000), ([(0, .ofNat 1), (5, .ofNat 1)], .ofNat 0, .ofNat 3000)], [(75, (.ofNat 10, []), (.ofNat 0, [(3, .ofNat 1)])), (75, (.ofNat 0, []), (.ofNat 0, [(0, .ofNat 1), (5, .ofNat 1)])), (77, (.negSucc 0, [(0, .ofNat 1), (1, .negSucc 0)]), (.ofNat 0, [(2, .ofNat 1)]))], [(0, (.ofNat 0, []), (.ofNat 0, [])), (7, (.ofNat 0, []), (.ofNat 0, [(0, .ofNat 1), (5, .ofNat 1)]))]), 36, [(0, (2, (.ofNat 75, []))), (1, (2, (.ofNat 18, []))), (2, (2, (.ofNat 55, []))), (3, (0, (.negSucc 0, [(0, .ofNat 1), (1, .negSucc 0)]))), (4, (0, (.ofNat 0, [(2, .ofNat 1)]))), (5, (0, (.ofNat 0, []))), (6, (0, (.negSucc 0, [(4, .ofNat 1)]))), (7, (0, (.ofNat 0, [(6, .ofNat 1)])))], []), (.ofNat 10000000, [(6, .negSucc 0)])), (((8, [(0, .ofNat 1, .ofNat 3000), (1, .ofNat 0, .ofNat 2999), (2, .ofNat 1, .ofNat 5), (3, .negSucc 2147483647, .ofNat 2147483647), (4, .ofNat 0, .ofNat 15), (5, .ofNat 0, .ofNat 100000), (6, .negSucc 2147483647, .ofNat 2147483647), (7, .ofNat 0, .ofNat 8)], [([(0, .ofNat 1), (1, .negSucc 0)], .ofNat 1, .ofNat 3000), ([(0, .ofNat 1), (5, .ofNat 1)], .ofNat 0, .ofNat 3000)], [(75, (.ofNat 10, []), (.ofNat 0, [(3, .ofNat 1)])), (75, (.ofNat 0, []), (.ofNat 0, [(0, .ofNat 1), (5, .ofNat 1)])), (77, (.negSucc 0, [(0, .ofNat 1), (1, .negSucc 0)]), (.ofNat 0, [(2, .ofNat 1)]))], [(0, (.ofNat 0, []), (.ofNat 0, [])), (7, (.ofNat 0, []), (.ofNat 0, [(0, .ofNat 1), (5, .ofNat 1)]))]), 36, [(0, (2, (.ofNat 75, []))), (1, (2, (.ofNat 18, []))), (2, (2, (.ofNat 55, []))), (3, (0, (.negSucc 0, [(0, .ofNat 1), (1, .negSucc 0)]))), (4, (0, (.ofNat 0, [(2, .ofNat 1)]))), (5, (0, (.ofNat 0, [(6, .ofNat 1)]))), (6, (0, (.negSucc 0, [(4, .ofNat 1)]))), (7, (0, (.ofNat 0, [(7, .ofNat 1)])))], []), (.ofNat 10000000, [(7, .negSucc 0)]))]
def cktb_229 : List ck_Co := [ckcn_58, ckcn_219, ckcn_228]
def ckce_229_0 : List Nat := [0, 8, 3, 0, 1, 0, 1, 2, 2, 0, 14, 2, 0, 7, 0, 1, 0, 2, 0, 1, 1, 2, 0, 1, 2, 2, 0, 1, 3, 2, 0, 1, 5, 2, 0, 0, 0, 0, 0, 14, 2, 1, 8, 0, 1, 0, 2, 0, 1, 1, 2, 0, 1, 2, 2, 0, 1, 5, 2, 0, 1, 7, 2, 0, 0, 0, 1, 3, 2, 0, 0]
def ckce_229_1 : List Nat := [0, 4, 4, 0, 4, 0, 1, 0, 2, 0, 1, 1, 2, 0, 1, 2, 2, 0, 1, 5, 2, 0, 3, 4, 0, 4, 0, 1, 0, 2, 0, 1, 1, 2, 0, 1, 2, 2, 0, 1, 5, 2, 0, 3, 0, 8, 2, 0, 7, 0, 1, 0, 2, 0, 1, 1, 2, 0, 1, 2, 2, 0, 1, 3, 2, 0, 1, 4, 2, 0, 1, 5, 2, 2, 1, 6, 2, 0, 3, 0, 2, 2, 0, 7, 0, 1, 0, 2, 0, 1, 1, 2, 0, 1, 2, 2, 0, 1, 3, 2, 0, 1, 4, 2, 0, 1, 5, 2, 2, 1, 6, 2, 0, 8, 2, 0, 7, 0, 1, 0, 2, 0, 1, 1, 2, 0, 1, 2, 2, 0, 1, 3, 2, 0, 1, 4, 2, 0, 1, 5, 2, 2, 1, 6, 2]
def ckce_229_2 : List Nat := [0, 4, 4, 0, 4, 0, 1, 0, 2, 0, 1, 1, 2, 0, 1, 2, 2, 0, 1, 5, 2, 0, 3, 4, 0, 4, 0, 1, 0, 2, 0, 1, 1, 2, 0, 1, 2, 2, 0, 1, 5, 2, 0, 3, 0, 6, 0, 2, 2, 1, 8, 0, 1, 0, 2, 0, 1, 1, 2, 0, 1, 2, 2, 0, 1, 3, 2, 0, 1, 4, 2, 0, 1, 5, 2, 0, 1, 6, 2, 2, 1, 7, 2, 0, 4, 0, 4, 3, 1, 4, 0, 1, 7, 2, 0, 2, 0, 2, 5, 2, 0, 2, 1, 2, 5, 2, 0, 1, 2, 2, 0, 5, 3, 2, 3, 0, 1, 7, 2, 2, 2, 0, 2, 5, 2, 0, 1, 2, 2, 0, 2, 2, 1, 8, 0, 1, 0, 2, 0, 1, 1, 2, 0, 1, 2, 2, 0, 1, 3, 2, 0, 1, 4, 2, 2, 2, 5, 2, 12, 2, 0, 1, 6, 2, 2, 1, 7, 2, 0, 6, 2, 1, 8, 0, 1, 0, 2, 0, 1, 1, 2, 0, 1, 2, 2, 0, 1, 3, 2, 0, 1, 4, 2, 0, 1, 5, 2, 0, 1, 6, 2, 2, 1, 7, 2, 0, 3, 0, 2, 2, 1, 8, 0, 1, 0, 2, 0, 1, 1, 2, 0, 1, 2, 2, 0, 1, 3, 2, 0, 1, 4, 2, 0, 1, 5, 2, 0, 1, 6, 2, 2, 1, 7, 2, 0, 6, 0, 2, 2, 1, 8, 0, 1, 0, 2, 0, 1, 1, 2, 0, 1, 2, 2, 0, 1, 3, 2, 0, 1, 4, 2, 0, 1, 5, 2, 0, 1, 6, 2, 2, 1, 7, 2, 0, 4, 0, 4, 3, 1, 4, 0, 1, 7, 2, 0, 2, 0, 2, 5, 2, 0, 2, 1, 2, 5, 2, 0, 1, 2, 2, 0, 5, 3, 2, 3, 0, 1, 7, 2, 2, 2, 0, 2, 5, 2, 0, 1, 2, 2, 0, 2, 2, 1, 8, 0, 1, 0, 2, 0, 1, 1, 2, 0, 1, 2, 2, 0, 1, 3, 2, 0, 1, 4, 2, 2, 2, 5, 2, 12, 2, 0, 1, 6, 2, 2, 1, 7, 2, 0, 6, 2, 1, 8, 0, 1, 0, 2, 0, 1, 1, 2, 0, 1, 2, 2, 0, 1, 3, 2, 0, 1, 4, 2, 0, 1, 5, 2, 0, 1, 6, 2, 2, 1, 7, 2]
set_option maxRecDepth 1000000 in
theorem ckie_229 : ck_in0 cktb_229 ckcn_229 ckpt_229 4000 ckce_229_0 = true := by decide +kernel
set_option maxRecDepth 1000000 in
theorem ckip_229_0 : ∀ p, ckpt_229[0]? = some p → ck_inP cktb_229 ckcn_229 ckpt_229 4000 p ckce_229_1 = true := by
  intro p hp
  cases hp
  decide +kernel
set_option maxRecDepth 1000000 in
theorem ckip_229_1 : ∀ p, ckpt_229[1]? = some p → ck_inP cktb_229 ckcn_229 ckpt_229 4000 p ckce_229_2 = true := by
  intro p hp
  cases hp
  decide +kernel
theorem ckco_229 : ck_CO ckcn_229 := ck_con (tab := cktb_229) (pats := ckpt_229) (List.forall_mem_cons.mpr ⟨ckco_58, (List.forall_mem_cons.mpr ⟨ckco_219, (List.forall_mem_cons.mpr ⟨ckco_228, (fun _ h => absurd h List.not_mem_nil)⟩)⟩)⟩) ckie_229 (List.forall_mem_cons.mpr ⟨⟨4000, ckce_229_1, ckip_229_0 _ rfl⟩, (List.forall_mem_cons.mpr ⟨⟨4000, ckce_229_2, ckip_229_1 _ rfl⟩, (fun _ h => absurd h List.not_mem_nil)⟩)⟩)
def ckpt_230 : List ck_Pt := []
def cktb_230 : List ck_Co := [ckcn_101, ckcn_229]
def ckce_230_0 : List Nat := [0, 6, 4, 0, 4, 0, 1, 0, 2, 0, 1, 1, 2, 0, 1, 2, 2, 0, 0, 0, 3, 3, 0, 2, 0, 1, 2, 2, 0, 1, 0, 2, 0, 7, 3, 1, 3, 0, 1, 1, 2, 0, 0, 2, 1, 2, 2, 4, 0, 4, 0, 1, 0, 2, 0, 1, 1, 2, 0, 1, 2, 2, 0, 1, 4, 2]
set_option maxRecDepth 1000000 in
theorem ckie_230 : ck_in0 cktb_230 ckcn_230 ckpt_230 4000 ckce_230_0 = true := by decide +kernel
theorem ckco_230 : ck_CO ckcn_230 := ck_con (tab := cktb_230) (pats := ckpt_230) (List.forall_mem_cons.mpr ⟨ckco_101, (List.forall_mem_cons.mpr ⟨ckco_229, (fun _ h => absurd h List.not_mem_nil)⟩)⟩) ckie_230 (fun _ h => absurd h List.not_mem_nil)
def ckpt_231 : List ck_Pt := [(((7, [(0, .ofNat 1, .ofNat 3000), (1, .ofNat 0, .ofNat 2999), (2, .ofNat 0, .ofNat 6), (3, .negSucc 2147483647, .ofNat 2147483647), (4, .ofNat 0, .ofNat 15), (5, .ofNat 0, .ofNat 100000), (6, .ofNat 0, .ofNat 8)], [([(0, .ofNat 1), (1, .negSucc 0)], .ofNat 1, .ofNat 3000), ([(0, .ofNat 1), (5, .ofNat 1)], .ofNat 0, .ofNat 3000)], [(75, (.ofNat 10, []), (.ofNat 0, [(3, .ofNat 1)])), (75, (.ofNat 0, []), (.ofNat 0, [(0, .ofNat 1), (5, .ofNat 1)])), (77, (.negSucc 0, [(0, .ofNat 1), (1, .negSucc 0)]), (.ofNat 0, [(2, .ofNat 1)]))], [(0, (.ofNat 0, []), (.ofNat 0, [])), (7, (.ofNat 0, []), (.ofNat 0, [(0, .ofNat 1), (5, .ofNat 1)]))]), 36, [(0, (2, (.ofNat 75, []))), (1, (2, (.ofNat 18, []))), (2, (2, (.ofNat 55, []))), (3, (0, (.negSucc 0, [(0, .ofNat 1), (1, .negSucc 0)]))), (4, (0, (.ofNat 0, [(2, .ofNat 1)]))), (5, (0, (.ofNat 0, []))), (6, (0, (.negSucc 0, [(4, .ofNat 1)]))), (7, (0, (.ofNat 0, [(6, .ofNat 1)])))], []), (.ofNat 10000000, [(6, .negSucc 0)])), (((8, [(0, .ofNat 1, .ofNat 3000), (1, .ofNat 0, .ofNat 2999), (2, .ofNat 0, .ofNat 5), (3, .negSucc 2147483647, .ofNat 2147483647), (4, .ofNat 0, .ofNat 15), (5, .ofNat 0, .ofNat 100000), (6, .negSucc 2147483647, .ofNat 2147483647), (7, .ofNat 0, .ofNat 8)], [([(0, .ofNat 1), (1, .negSucc 0)], .ofNat 1, .ofNat 3000), ([(0, .ofNat 1), (5, .ofNat 1)], .ofNat 0, .ofNat 3000)], [(75, (.ofNat 10, []), (.ofNat 0, [(3, .ofNat 1)])), (75, (.ofNat 0, []), (.ofNat 0, [(0, .ofNat 1), (5, .ofNat 1)])), (77, (.negSucc 0, [(0, .ofNat 1), (1, .negSucc 0)]), (.ofNat 0, [(2, .ofNat 1)]))], [(0, (.ofNat 0, []), (.ofNat 0, [])), (7, (.ofNat 0, []), (.ofNat 0, [(0, .ofNat 1), (5, .ofNat 1)]))]), 36, [(0, (2, (.ofNat 75, []))), (1, (2, (.ofNat 18, []))), (2, (2, (.ofNat 55, []))), (3, (0, (.negSucc 0, [(0, .ofNat 1), (1, .negSucc 0)]))), (4, (0, (.ofNat 0, [(2, .ofNat 1)]))), (5, (0, (.ofNat 0, [(6, .ofNat 1)]))), (6, (0, (.negSucc 0, [(4, .ofNat 1)]))), (7, (0, (.ofNat 0, [(7, .ofNat 1)])))], []), (.ofNat 10000000, [(7, .negSucc 0)]))]
def cktb_231 : List ck_Co := [ckcn_58, ckcn_219, ckcn_230]
def ckce_231_0 : List Nat := [0, 8, 3, 0, 1, 0, 1, 2, 2, 0, 14, 2, 0, 7, 0, 1, 0, 2, 0, 1, 1, 2, 0, 1, 2, 2, 0, 1, 3, 2, 0, 1, 5, 2, 0, 0, 0, 0, 0, 14, 2, 1, 8, 0, 1, 0, 2, 0, 1, 1, 2, 0, 1, 2, 2, 0, 1, 5, 2, 0, 1, 7, 2, 0, 0, 0, 1, 3, 2, 0, 0]
def ckce_231_1 : List Nat := [0, 4, 4, 0, 4, 0, 1, 0, 2, 0, 1, 1, 2, 0, 1, 2, 2, 0, 1, 5, 2, 0, 3, 4, 0, 4, 0, 1, 0, 2, 0, 1, 1, 2, 0, 1, 2, 2, 0, 1, 5, 2, 0, 3, 0, 8, 2, 0, 7, 0, 1, 0, 2, 0, 1, 1, 2, 0, 1, 2, 2, 0, 1, 3, 2, 0, 1, 4, 2, 0, 1, 5, 2, 2, 1, 6, 2, 0, 3, 0, 2, 2, 0, 7, 0, 1, 0, 2, 0, 1, 1, 2, 0, 1, 2, 2, 0, 1, 3, 2, 0, 1, 4, 2, 0, 1, 5, 2, 2, 1, 6, 2, 0, 8, 2, 0, 7, 0, 1, 0, 2, 0, 1, 1, 2, 0, 1, 2, 2, 0, 1, 3, 2, 0, 1, 4, 2, 0, 1, 5, 2, 2, 1, 6, 2]
def ckce_231_2 : List Nat := [0, 4, 4, 0, 4, 0, 1, 0, 2, 0, 1, 1, 2, 0, 1, 2, 2, 0, 1, 5, 2, 0, 3, 4, 0, 4, 0, 1, 0, 2, 0, 1, 1, 2, 0, 1, 2, 2, 0, 1, 5, 2, 0, 3, 0, 6, 0, 2, 2, 1, 8, 0, 1, 0, 2, 0, 1, 1, 2, 0, 1, 2, 2, 0, 1, 3, 2, 0, 1, 4, 2, 0, 1, 5, 2, 0, 1, 6, 2, 2, 1, 7, 2, 0, 4, 0, 4, 3, 1, 4, 0, 1, 7, 2, 0, 2, 0, 2, 5, 2, 0, 2, 1, 2, 5, 2, 0, 1, 2, 2, 0, 5, 3, 2, 3, 0, 1, 7, 2, 2, 2, 0, 2, 5, 2, 0, 1, 2, 2, 0, 2, 2, 1, 8, 0, 1, 0, 2, 0, 1, 1, 2, 0, 1, 2, 2, 0, 1, 3, 2, 0, 1, 4, 2, 2, 2, 5, 2, 12, 2, 0, 1, 6, 2, 2, 1, 7, 2, 0, 6, 2, 1, 8, 0, 1, 0, 2, 0, 1, 1, 2, 0, 1, 2, 2, 0, 1, 3, 2, 0, 1, 4, 2, 0, 1, 5, 2, 0, 1, 6, 2, 2, 1, 7, 2, 0, 3, 0, 2, 2, 1, 8, 0, 1, 0, 2, 0, 1, 1, 2, 0, 1, 2, 2, 0, 1, 3, 2, 0, 1, 4, 2, 0, 1, 5, 2, 0, 1, 6, 2, 2, 1, 7, 2, 0, 6, 0, 2, 2, 1, 8, 0, 1, 0, 2, 0, 1, 1, 2, 0, 1, 2, 2, 0, 1, 3, 2, 0, 1, 4, 2, 0, 1, 5, 2, 0, 1, 6, 2, 2, 1, 7, 2, 0, 4, 0, 4, 3, 1, 4, 0, 1, 7, 2, 0, 2, 0, 2, 5, 2, 0, 2, 1, 2, 5, 2, 0, 1, 2, 2, 0, 5, 3, 2, 3, 0, 1, 7, 2, 2, 2, 0, 2, 5, 2, 0, 1, 2, 2, 0, 2, 2, 1, 8, 0, 1, 0, 2, 0, 1, 1, 2, 0, 1, 2, 2, 0, 1, 3, 2, 0, 1, 4, 2, 2, 2, 5, 2, 12, 2, 0, 1, 6, 2, 2, 1, 7, 2, 0, 6, 2, 1, 8, 0, 1, 0, 2, 0, 1, 1, 2, 0, 1, 2, 2, 0, 1, 3, 2, 0, 1, 4, 2, 0, 1, 5, 2, 0, 1, 6, 2, 2, 1, 7, 2]
set_option maxRecDepth 1000000 in
theorem ckie_231 : ck_in0 cktb_231 ckcn_231 ckpt_231 4000 ckce_231_0 = true := by decide +kernel
set_option maxRecDepth 1000000 in
theorem ckip_231_0 : ∀ p, ckpt_231[0]? = some p → ck_inP cktb_231 ckcn_231 ckpt_231 4000 p ckce_231_1 = true := by
  intro p hp
  cases hp
  decide +kernel
set_option maxRecDepth 1000000 in
theorem ckip_231_1 : ∀ p, ckpt_231[1]? = some p → ck_inP cktb_231 ckcn_231 ckpt_231 4000 p ckce_231_2 = true := by
  intro p hp
  cases hp
  decide +kernel
theorem ckco_231 : ck_CO ckcn_231 := ck_con (tab := cktb_231) (pats := ckpt_231) (List.forall_mem_cons.mpr ⟨ckco_58, (List.forall_mem_cons.mpr ⟨ckco_219, (List.forall_mem_cons.mpr ⟨ckco_230, (fun _ h => absurd h List.not_mem_nil)⟩)⟩)⟩) ckie_231 (List.forall_mem_cons.mpr ⟨⟨4000, ckce_231_1, ckip_231_0 _ rfl⟩, (List.forall_mem_cons.mpr ⟨⟨4000, ckce_231_2, ckip_231_1 _ rfl⟩, (fun _ h => absurd h List.not_mem_nil)⟩)⟩)
def ckpt_232 : List ck_Pt := [(((5, [(0, .ofNat 0, .ofNat 6), (1, .negSucc 2147483647, .ofNat 2147483647), (2, .ofNat 0, .ofNat 3000), (3, .negSucc 2147483647, .ofNat 2147483647), (4, .ofNat 0, .ofNat 6)], [], [(75, (.ofNat 0, []), (.ofNat 0, [(2, .ofNat 1)]))], [(7, (.ofNat 0, []), (.ofNat 0, [(2, .ofNat 1)])), (0, (.ofNat 0, []), (.ofNat 0, []))]), 6, [(0, (2, (.ofNat 75, []))), (1, (2, (.ofNat 18, []))), (2, (2, (.ofNat 55, []))), (3, (2, (.ofNat 39, []))), (4, (0, (.ofNat 0, [(0, .ofNat 1)]))), (5, (0, (.ofNat 0, [(1, .ofNat 1)]))), (6, (0, (.ofNat 0, [(3, .ofNat 1)]))), (7, (0, (.ofNat 0, [(4, .ofNat 1)])))], []), (.ofNat 10000000, [(4, .negSucc 0)]))]
def cktb_232 : List ck_Co := [ckcn_218, ckcn_57, ckcn_231]
def ckce_232_0 : List Nat := [0, 4, 2, 0, 5, 0, 1, 0, 2, 0, 1, 1, 2, 0, 1, 2, 2, 0, 0, 0, 0]
def ckce_232_1 : List Nat := [0, 3, 0, 3, 0, 22, 3, 0, 0, 0, 4, 3, 1, 1, 0, 1, 0, 2, 0, 4, 1, 1, 77, 0, 0, 3, 2, 3, 2, 0, 0, 0, 0, 1, 7, 2, 0, 4, 4, 0, 4, 0, 1, 0, 2, 0, 1, 1, 2, 0, 1, 2, 2, 2, 1, 8, 2, 0, 4, 4, 0, 4, 0, 1, 0, 2, 0, 1, 1, 2, 0, 1, 2, 2, 2, 1, 8, 2, 0, 3, 4, 0, 4, 0, 1, 0, 2, 0, 1, 1, 2, 0, 1, 2, 2, 0, 0, 0, 4, 0, 22, 3, 0, 0, 0, 4, 3, 1, 1, 0, 1, 0, 2, 0, 4, 1, 1, 77, 0, 0, 3, 2, 3, 2, 0, 0, 0, 0, 1, 8, 2, 0, 4, 4, 0, 4, 0, 1, 0, 2, 0, 1, 1, 2, 0, 1, 2, 2, 2, 1, 9, 2, 0, 4, 4, 0, 4, 0, 1, 0, 2, 0, 1, 1, 2, 0, 1, 2, 2, 2, 1, 9, 2, 0, 3, 4, 0, 4, 0, 1, 0, 2, 0, 1, 1, 2, 0, 1, 2, 2, 0, 0, 0, 4, 0, 22, 3, 0, 0, 0, 4, 3, 1, 1, 0, 1, 0, 2, 0, 4, 1, 1, 77, 0, 0, 3, 2, 3, 2, 0, 0, 0, 0, 1, 9, 2, 0, 4, 4, 0, 4, 0, 1, 0, 2, 0, 1, 1, 2, 0, 1, 2, 2, 2, 1, 10, 2, 0, 4, 4, 0, 4, 0, 1, 0, 2, 0, 1, 1, 2, 0, 1, 2, 2, 2, 1, 10, 2, 0, 3, 4, 0, 4, 0, 1, 0, 2, 0, 1, 1, 2, 0, 1, 2, 2, 0, 0, 0, 4, 0, 22, 3, 0, 0, 0, 4, 3, 1, 1, 0, 1, 0, 2, 0, 4, 1, 1, 77, 0, 0, 3, 2, 3, 2, 0, 0, 0, 0, 1, 10, 2, 0, 4, 4, 0, 4, 0, 1, 0, 2, 0, 1, 1, 2, 0, 1, 2, 2, 2, 1, 11, 2, 0, 4, 4, 0, 4, 0, 1, 0, 2, 0, 1, 1, 2, 0, 1, 2, 2, 2, 1, 11, 2, 0, 3, 4, 0, 4, 0, 1, 0, 2, 0, 1, 1, 2, 0, 1, 2, 2, 0, 0, 4, 0, 4, 0, 1, 0, 2, 0, 1, 1, 2, 0, 1, 2, 2, 0, 1, 2, 2, 0, 10, 2, 0, 5, 0, 1, 0, 2, 0, 1, 1, 2, 0, 1, 2, 2, 0, 1, 7, 2, 2, 1, 4, 2]
set_option maxRecDepth 1000000 in
theorem ckie_232 : ck_in0 cktb_232 ckcn_232 ckpt_232 4000 ckce_232_0 = true := by decide +kernel
set_option maxRecDepth 1000000 in
theorem ckip_232_0 : ∀ p, ckpt_232[0]? = some p → ck_inP cktb_232 ckcn_232 ckpt_232 4000 p ckce_232_1 = true := by
  intro p hp
  cases hp
  decide +kernel
theorem ckco_232 : ck_CO ckcn_232 := ck_con (tab := cktb_232) (pats := ckpt_232) (List.forall_mem_cons.mpr ⟨ckco_218, (List.forall_mem_cons.mpr ⟨ckco_57, (List.forall_mem_cons.mpr ⟨ckco_231, (fun _ h => absurd h List.not_mem_nil)⟩)⟩)⟩) ckie_232 (List.forall_mem_cons.mpr ⟨⟨4000, ckce_232_1, ckip_232_0 _ rfl⟩, (fun _ h => absurd h List.not_mem_nil)⟩)
def ckpt_233 : List ck_Pt := []
def cktb_233 : List ck_Co := [ckcn_232, ckcn_129]
def ckce_233_0 : List Nat := [0, 3, 0, 14, 3, 0, 3, 0, 0, 0, 1, 3, 2, 0, 1, 2, 2, 0, 1, 4, 0, 5, 0, 1, 0, 2, 0, 1, 1, 2, 0, 1, 2, 2, 0, 1, 0, 2, 0, 1, 4, 2, 0, 15, 3, 1, 2, 0, 0, 0, 1, 0, 2, 0, 1, 4, 1, 5, 0, 1, 0, 2, 0, 1, 1, 2, 0, 1, 2, 2, 0, 1, 4, 2, 0, 1, 2, 2]
set_option maxRecDepth 1000000 in
theorem ckie_233 : ck_in0 cktb_233 ckcn_233 ckpt_233 4000 ckce_233_0 = true := by decide +kernel
theorem ckco_233 : ck_CO ckcn_233 := ck_con (tab := cktb_233) (pats := ckpt_233) (List.forall_mem_cons.mpr ⟨ckco_232, (List.forall_mem_cons.mpr ⟨ckco_129, (fun _ h => absurd h List.not_mem_nil)⟩)⟩) ckie_233 (fun _ h => absurd h List.not_mem_nil)
def ckpt_234 : List ck_Pt := [(((8, [(0, .ofNat 0, .ofNat 3000), (1, .ofNat 0, .ofNat 3000), (2, .ofNat 0, .ofNat 3000), (3, .ofNat 0, .ofNat 3000), (4, .ofNat 0, .ofNat 3000), (5, .ofNat 0, .ofNat 0), (6, .ofNat 0, .ofNat 3000), (7, .negSucc 2147483647, .ofNat 2147483647)], [], [(75, (.ofNat 1, []), (.ofNat 0, [(5, .ofNat 1)])), (75, (.ofNat 7, []), (.ofNat 1, [])), (65, (.ofNat 0, []), (.ofNat 0, [(3, .ofNat 1)])), (75, (.ofNat 0, []), (.ofNat 0, [(4, .ofNat 1)])), (0, (.ofNat 3, []), (.ofNat 18, [])), (0, (.ofNat 4, []), (.ofNat 28, [])), (70, (.ofNat 0, []), (.ofNat 0, [(1, .ofNat 1)]))], [(5, (.ofNat 0, []), (.ofNat 0, [(0, .ofNat 1)])), (5, (.ofNat 0, []), (.ofNat 0, [(3, .ofNat 1)])), (7, (.ofNat 0, []), (.ofNat 0, [(4, .ofNat 1)])), (0, (.ofNat 0, []), (.ofNat 0, [])), (4, (.ofNat 0, []), (.ofNat 40, [])), (6, (.ofNat 0, []), (.ofNat 0, [(1, .ofNat 1)]))]), 19, [(1, (2, (.ofNat 75, []))), (2, (0, (.ofNat 0, [(7, .ofNat 1)]))), (3, (0, (.ofNat 0, [(6, .ofNat 1)])))], []), (.ofNat 10000000, [(6, .negSucc 0)])), (((8, [(0, .ofNat 0, .ofNat 3000), (1, .ofNat 0, .ofNat 3000), (2, .ofNat 0, .ofNat 3000), (3, .ofNat 0, .ofNat 3000), (4, .ofNat 0, .ofNat 3000), (5, .ofNat 0, .ofNat 0), (6, .ofNat 0, .ofNat 3000), (7, .negSucc 2147483647, .ofNat 2147483647)], [], [(65, (.ofNat 1, []), (.ofNat 0, [(5, .ofNat 1)])), (0, (.ofNat 13, []), (.ofNat 0, [])), (65, (.ofNat 10, []), (.ofNat 0, [])), (65, (.ofNat 7, []), (.ofNat 1, [])), (65, (.ofNat 0, []), (.ofNat 0, [(3, .ofNat 1)])), (75, (.ofNat 0, []), (.ofNat 0, [(4, .ofNat 1)])), (0, (.ofNat 3, []), (.ofNat 18, [])), (0, (.ofNat 4, []), (.ofNat 28, [])), (70, (.ofNat 0, []), (.ofNat 0, [(1, .ofNat 1)]))], [(7, (.ofNat 0, []), (.ofNat 0, [(2, .ofNat 1)])), (5, (.ofNat 0, []), (.ofNat 0, [(3, .ofNat 1)])), (7, (.ofNat 0, []), (.ofNat 0, [(4, .ofNat 1)])), (0, (.ofNat 0, []), (.ofNat 0, [])), (4, (.ofNat 0, []), (.ofNat 40, [])), (6, (.ofNat 0, []), (.ofNat 0, [(1, .ofNat 1)]))]), 19, [(1, (2, (.ofNat 65, []))), (2, (0, (.ofNat 0, [(7, .ofNat 1)]))), (3, (0, (.ofNat 0, [(6, .ofNat 1)])))], []), (.ofNat 10000000, [(6, .negSucc 0)]))]
def cktb_234 : List ck_Co := [ckcn_233]
def ckce_234_0 : List Nat := [0, 1, 3, 0, 3, 0, 1, 0, 2, 0, 1, 1, 2, 0, 1, 2, 2, 0, 4, 0, 4, 2, 0, 8, 0, 1, 0, 2, 0, 1, 1, 2, 0, 1, 2, 2, 0, 1, 3, 2, 0, 1, 4, 2, 0, 1, 5, 2, 0, 0, 0, 0, 0, 1, 4, 0, 5, 0, 1, 0, 2, 0, 1, 1, 2, 0, 1, 2, 2, 0, 1, 3, 2, 0, 1, 4, 2, 0, 4, 0, 4, 2, 1, 8, 0, 1, 0, 2, 0, 1, 1, 2, 0, 1, 2, 2, 0, 1, 3, 2, 0, 1, 4, 2, 0, 1, 5, 2, 0, 0, 0, 0, 0, 1, 4, 0, 5, 0, 1, 0, 2, 0, 1, 1, 2, 0, 1, 2, 2, 0, 1, 3, 2, 0, 1, 4, 2]
def ckce_234_1 : List Nat := [0, 4, 0, 1, 4, 1, 6, 0, 1, 0, 2, 0, 1, 1, 2, 0, 1, 2, 2, 0, 1, 7, 2, 0, 1, 3, 2, 0, 1, 4, 2, 0, 10, 0, 5, 2, 0, 8, 0, 1, 0, 2, 0, 1, 1, 2, 0, 1, 2, 2, 0, 1, 3, 2, 0, 1, 4, 2, 0, 1, 5, 2, 2, 1, 6, 2, 0, 1, 7, 2, 0, 7, 2, 0, 8, 0, 1, 0, 2, 0, 1, 1, 2, 0, 1, 2, 2, 0, 1, 3, 2, 0, 1, 4, 2, 0, 1, 5, 2, 2, 1, 6, 2, 0, 1, 10, 2]
def ckce_234_2 : List Nat := [0, 4, 0, 1, 4, 1, 6, 0, 1, 0, 2, 0, 1, 1, 2, 0, 1, 2, 2, 0, 1, 7, 2, 0, 1, 3, 2, 0, 1, 4, 2, 0, 10, 0, 5, 2, 1, 8, 0, 1, 0, 2, 0, 1, 1, 2, 0, 1, 2, 2, 0, 1, 3, 2, 0, 1, 4, 2, 0, 1, 5, 2, 2, 1, 6, 2, 0, 1, 7, 2, 0, 7, 2, 1, 8, 0, 1, 0, 2, 0, 1, 1, 2, 0, 1, 2, 2, 0, 1, 3, 2, 0, 1, 4, 2, 0, 1, 5, 2, 2, 1, 6, 2, 0, 1, 10, 2]
set_option maxRecDepth 1000000 in
theorem ckie_234 : ck_in0 cktb_234 ckcn_234 ckpt_234 4000 ckce_234_0 = true := by decide +kernel
set_option maxRecDepth 1000000 in
theorem ckip_234_0 : ∀ p, ckpt_234[0]? = some p → ck_inP cktb_234 ckcn_234 ckpt_234 4000 p ckce_234_1 = true := by
  intro p hp
  cases hp
  decide +kernel
set_option maxRecDepth 1000000 in
theorem ckip_234_1 : ∀ p, ckpt_234[1]? = some p → ck_inP cktb_234 ckcn_234 ckpt_234 4000 p ckce_234_2 = true := by
  intro p hp
  cases hp
  decide +kernel
theorem ckco_234 : ck_CO ckcn_234 := ck_con (tab := cktb_234) (pats := ckpt_234) (List.forall_mem_cons.mpr ⟨ckco_233, (fun _ h => absurd h List.not_mem_nil)⟩) ckie_234 (List.forall_mem_cons.mpr ⟨⟨4000, ckce_234_1, ckip_234_0 _ rfl⟩, (List.forall_mem_cons.mpr ⟨⟨4000, ckce_234_2, ckip_234_1 _ rfl⟩, (fun _ h => absurd h List.not_mem_nil)⟩)⟩)
def ckpt_235 : List ck_Pt := [(((3, [(0, .ofNat 0, .ofNat 6), (1, .negSucc 2147483647, .ofNat 2147483647), (2, .ofNat 0, .ofNat 3)], [], [(79, (.ofNat 0, []), (.ofNat 0, [(1, .ofNat 1)])), (75, (.ofNat 8, []), (.ofNat 0, [(1, .ofNat 1)])), (77, (.ofNat 0, []), (.ofNat 0, [(0, .ofNat 1)])), (75, (.ofNat 9, []), (.ofNat 0, [(0, .ofNat 1)])), (76, (.ofNat 0, []), (.negSucc 0, [])), (75, (.ofNat 0, []), (.ofNat 1, []))], []), 34, [(0, (2, (.ofNat 75, []))), (1, (2, (.ofNat 28, []))), (2, (2, (.ofNat 39, []))), (3, (0, (.ofNat 0, [(2, .ofNat 1)])))], []), (.ofNat 10000000, [(2, .negSucc 0)]))]
def cktb_235 : List ck_Co := [ckcn_97]
def ckce_235_0 : List Nat := [0, 22, 2, 0, 3, 0, 1, 0, 2, 0, 1, 1, 2, 0, 0]
def ckce_235_1 : List Nat := [0, 3, 4, 0, 0, 0, 8, 3, 0, 2, 0, 1, 0, 2, 0, 1, 2, 2, 0, 3, 2, 0, 3, 0, 1, 0, 2, 0, 1, 1, 2, 2, 1, 2, 2]
set_option maxRecDepth 1000000 in
theorem ckie_235 : ck_in0 cktb_235 ckcn_235 ckpt_235 4000 ckce_235_0 = true := by decide +kernel
set_option maxRecDepth 1000000 in
theorem ckip_235_0 : ∀ p, ckpt_235[0]? = some p → ck_inP cktb_235 ckcn_235 ckpt_235 4000 p ckce_235_1 = true := by
  intro p hp
  cases hp
  decide +kernel
theorem ckco_235 : ck_CO ckcn_235 := ck_con (tab := cktb_235) (pats := ckpt_235) (List.forall_mem_cons.mpr ⟨ckco_97, (fun _ h => absurd h List.not_mem_nil)⟩) ckie_235 (List.forall_mem_cons.mpr ⟨⟨4000, ckce_235_1, ckip_235_0 _ rfl⟩, (fun _ h => absurd h List.not_mem_nil)⟩)
def ckpt_236 : List ck_Pt := [(((8, [(0, .ofNat 0, .ofNat 7), (1, .ofNat 1, .ofNat 2999), (2, .ofNat 0, .ofNat 2998), (3, .ofNat 0, .ofNat 5), (4, .negSucc 2147483647, .ofNat 2147483647), (5, .negSucc 2147483647, .ofNat 2147483647), (6, .negSucc 0, .ofNat 7), (7, .ofNat 0, .ofNat 3)], [([(1, .ofNat 1), (2, .negSucc 0)], .ofNat 1, .ofNat 2999)], [(79, (.ofNat 0, [(1, .ofNat 1)]), (.ofNat 0, [(5, .ofNat 1)])), (79, (.negSucc 0, [(1, .ofNat 1), (2, .negSucc 0)]), (.ofNat 0, [(4, .ofNat 1)])), (77, (.ofNat 0, [(1, .ofNat 1)]), (.ofNat 1, [(3, .ofNat 1)])), (76, (.ofNat 0, [(1, .ofNat 1)]), (.negSucc 0, [(1, .ofNat 1), (2, .negSucc 0)])), (75, (.ofNat 0, []), (.ofNat 0, [(1, .ofNat 1)])), (77, (.negSucc 0, [(1, .ofNat 1), (2, .negSucc 0)]), (.ofNat 0, [(3, .ofNat 1)]))], [(7, (.ofNat 0, []), (.ofNat 0, [(1, .ofNat 1)]))]), 73, [(0, (2, (.ofNat 75, []))), (1, (2, (.ofNat 28, []))), (2, (0, (.negSucc 0, [(1, .ofNat 1), (2, .negSucc 0)]))), (3, (0, (.ofNat 0, [(0, .ofNat 1)]))), (4, (0, (.ofNat 0, [(6, .ofNat 1)]))), (5, (0, (.ofNat 0, [(7, .ofNat 1)])))], []), (.ofNat 10000000, [(7, .negSucc 0)]))]
def cktb_236 : List ck_Co := []
def ckce_236_0 : List Nat := [0, 5, 0, 34, 2, 0, 8, 0, 1, 0, 2, 0, 1, 1, 2, 0, 1, 2, 2, 0, 1, 3, 2, 0, 1, 4, 2, 0, 1, 6, 2, 1, 0, 0, 0, 0, 40, 2, 0, 8, 0, 1, 0, 2, 0, 1, 1, 2, 0, 1, 2, 2, 0, 1, 3, 2, 0, 1, 4, 2, 0, 1, 7, 2, 0, 1, 5, 2, 0, 0]
def ckce_236_1 : List Nat := [0, 3, 1, 3, 7, 0, 1, 1, 2, 0, 6, 4, 0, 4, 0, 1, 0, 2, 0, 1, 1, 2, 0, 1, 2, 2, 0, 1, 3, 2, 0, 33, 0, 19, 2, 0, 8, 0, 1, 0, 2, 0, 1, 1, 2, 0, 1, 2, 2, 0, 1, 3, 2, 0, 1, 4, 2, 0, 1, 5, 2, 0, 1, 6, 2, 2, 1, 7, 2, 0, 7, 2, 0, 8, 0, 1, 0, 2, 0, 1, 1, 2, 0, 1, 2, 2, 0, 1, 3, 2, 0, 1, 4, 2, 0, 1, 5, 2, 0, 1, 6, 2, 2, 1, 7, 2]
set_option maxRecDepth 1000000 in
theorem ckie_236 : ck_in0 cktb_236 ckcn_236 ckpt_236 4000 ckce_236_0 = true := by decide +kernel
set_option maxRecDepth 1000000 in
theorem ckip_236_0 : ∀ p, ckpt_236[0]? = some p → ck_inP cktb_236 ckcn_236 ckpt_236 4000 p ckce_236_1 = true := by
  intro p hp
  cases hp
  decide +kernel
theorem ckco_236 : ck_CO ckcn_236 := ck_con (tab := cktb_236) (pats := ckpt_236) (fun _ h => absurd h List.not_mem_nil) ckie_236 (List.forall_mem_cons.mpr ⟨⟨4000, ckce_236_1, ckip_236_0 _ rfl⟩, (fun _ h => absurd h List.not_mem_nil)⟩)
def ckpt_237 : List ck_Pt := []
def cktb_237 : List ck_Co := []
def ckce_237_0 : List Nat := [0, 6, 4, 0, 3, 0, 1, 0, 2, 0, 1, 1, 2, 0, 0]
set_option maxRecDepth 1000000 in
theorem ckie_237 : ck_in0 cktb_237 ckcn_237 ckpt_237 4000 ckce_237_0 = true := by decide +kernel
theorem ckco_237 : ck_CO ckcn_237 := ck_con (tab := cktb_237) (pats := ckpt_237) (fun _ h => absurd h List.not_mem_nil) ckie_237 (fun _ h => absurd h List.not_mem_nil)
def ckpt_238 : List ck_Pt := [(((7, [(0, .ofNat 1, .ofNat 3000), (1, .ofNat 0, .ofNat 2999), (2, .ofNat 5, .ofNat 6), (3, .negSucc 2147483647, .ofNat 2147483647), (4, .ofNat 0, .ofNat 15), (5, .ofNat 0, .ofNat 100000), (6, .ofNat 0, .ofNat 8)], [([(0, .ofNat 1), (1, .negSucc 0)], .ofNat 1, .ofNat 3000), ([(0, .ofNat 1), (5, .ofNat 1)], .ofNat 0, .ofNat 3000)], [(75, (.ofNat 10, []), (.ofNat 0, [(3, .ofNat 1)])), (75, (.ofNat 0, []), (.ofNat 0, [(0, .ofNat 1), (5, .ofNat 1)])), (77, (.negSucc 0, [(0, .ofNat 1), (1, .negSucc 0)]), (.ofNat 0, [(2, .ofNat 1)]))], [(1, (.ofNat 0, []), (.ofNat 0, [])), (7, (.ofNat 0, []), (.ofNat 0, [(0, .ofNat 1), (5, .ofNat 1)]))]), 36, [(0, (2, (.ofNat 75, []))), (1, (2, (.ofNat 28, []))), (2, (2, (.ofNat 55, []))), (3, (0, (.negSucc 0, [(0, .ofNat 1), (1, .negSucc 0)]))), (4, (0, (.ofNat 0, [(2, .ofNat 1)]))), (5, (0, (.ofNat 0, []))), (6, (0, (.negSucc 0, [(4, .ofNat 1)]))), (7, (0, (.ofNat 0, [(6, .ofNat 1)])))], []), (.ofNat 10000000, [(6, .negSucc 0)])), (((8, [(0, .ofNat 1, .ofNat 3000), (1, .ofNat 0, .ofNat 2999), (2, .ofNat 5, .ofNat 5), (3, .negSucc 2147483647, .ofNat 2147483647), (4, .ofNat 0, .ofNat 15), (5, .ofNat 0, .ofNat 100000), (6, .negSucc 2147483647, .ofNat 2147483647), (7, .ofNat 0, .ofNat 8)], [([(0, .ofNat 1), (1, .negSucc 0)], .ofNat 1, .ofNat 3000), ([(0, .ofNat 1), (5, .ofNat 1)], .ofNat 0, .ofNat 3000)], [(75, (.ofNat 10, []), (.ofNat 0, [(3, .ofNat 1)])), (75, (.ofNat 0, []), (.ofNat 0, [(0, .ofNat 1), (5, .ofNat 1)])), (77, (.negSucc 0, [(0, .ofNat 1), (1, .negSucc 0)]), (.ofNat 0, [(2, .ofNat 1)]))], [(1, (.ofNat 0, []), (.ofNat 0, [])), (7, (.ofNat 0, []), (.ofNat 0, [(0, .ofNat 1), (5, .ofNat 1)]))]), 36, [(0, (2, (.ofNat 75, []))), (1, (2, (.ofNat 28, []))), (2, (2, (.ofNat 55, []))), (3, (0, (.negSucc 0, [(0, .ofNat 1), (1, .negSucc 0)]))), (4, (0, (.ofNat 0, [(2, .ofNat 1)]))), (5, (0, (.ofNat 0, [(6, .ofNat 1)]))), (6, (0, (.negSucc 0, [(4, .ofNat 1)]))), (7, (0, (.ofNat 0, [(7, .ofNat 1)])))], []), (.ofNat 10000000, [(7, .negSucc 0)]))]
def cktb_238 : List ck_Co := [ckcn_66, ckcn_236, ckcn_237]
def ckce_238_0 : List Nat := [0, 8, 3, 0, 1, 0, 1, 2, 2, 0, 14, 2, 0, 7, 0, 1, 0, 2, 0, 1, 1, 2, 0, 1, 2, 2, 0, 1, 3, 2, 0, 1, 5, 2, 0, 0, 0, 0, 0, 14, 2, 1, 8, 0, 1, 0, 2, 0, 1, 1, 2, 0, 1, 2, 2, 0, 1, 5, 2, 0, 1, 7, 2, 0, 0, 0, 1, 3, 2, 0, 0]
def ckce_238_1 : List Nat := [0, 4, 4, 0, 4, 0, 1, 0, 2, 0, 1, 1, 2, 0, 1, 2, 2, 0, 1, 5, 2, 0, 3, 4, 0, 4, 0, 1, 0, 2, 0, 1, 1, 2, 0, 1, 2, 2, 0, 1, 5, 2, 0, 3, 0, 8, 2, 0, 7, 0, 1, 0, 2, 0, 1, 1, 2, 0, 1, 2, 2, 0, 1, 3, 2, 0, 1, 4, 2, 0, 1, 5, 2, 2, 1, 6, 2, 0, 3, 0, 2, 2, 0, 7, 0, 1, 0, 2, 0, 1, 1, 2, 0, 1, 2, 2, 0, 1, 3, 2, 0, 1, 4, 2, 0, 1, 5, 2, 2, 1, 6, 2, 0, 8, 2, 0, 7, 0, 1, 0, 2, 0, 1, 1, 2, 0, 1, 2, 2, 0, 1, 3, 2, 0, 1, 4, 2, 0, 1, 5, 2, 2, 1, 6, 2]
def ckce_238_2 : List Nat := [0, 4, 4, 0, 4, 0, 1, 0, 2, 0, 1, 1, 2, 0, 1, 2, 2, 0, 1, 5, 2, 0, 3, 4, 0, 4, 0, 1, 0, 2, 0, 1, 1, 2, 0, 1, 2, 2, 0, 1, 5, 2, 0, 3, 0, 6, 0, 2, 2, 1, 8, 0, 1, 0, 2, 0, 1, 1, 2, 0, 1, 2, 2, 0, 1, 3, 2, 0, 1, 4, 2, 0, 1, 5, 2, 0, 1, 6, 2, 2, 1, 7, 2, 0, 4, 0, 4, 3, 1, 4, 0, 1, 7, 2, 0, 2, 0, 2, 5, 2, 0, 2, 1, 2, 5, 2, 0, 1, 2, 2, 0, 5, 3, 2, 2, 0, 1, 7, 2, 2, 2, 0, 2, 5, 2, 0, 2, 2, 1, 8, 0, 1, 0, 2, 0, 1, 1, 2, 0, 1, 2, 2, 0, 1, 3, 2, 0, 1, 4, 2, 2, 1, 5, 2, 0, 1, 6, 2, 2, 1, 7, 2, 0, 6, 2, 1, 8, 0, 1, 0, 2, 0, 1, 1, 2, 0, 1, 2, 2, 0, 1, 3, 2, 0, 1, 4, 2, 0, 1, 5, 2, 0, 1, 6, 2, 2, 1, 7, 2, 0, 3, 0, 2, 2, 1, 8, 0, 1, 0, 2, 0, 1, 1, 2, 0, 1, 2, 2, 0, 1, 3, 2, 0, 1, 4, 2, 0, 1, 5, 2, 0, 1, 6, 2, 2, 1, 7, 2, 0, 6, 0, 2, 2, 1, 8, 0, 1, 0, 2, 0, 1, 1, 2, 0, 1, 2, 2, 0, 1, 3, 2, 0, 1, 4, 2, 0, 1, 5, 2, 0, 1, 6, 2, 2, 1, 7, 2, 0, 4, 0, 4, 3, 1, 4, 0, 1, 7, 2, 0, 2, 0, 2, 5, 2, 0, 2, 1, 2, 5, 2, 0, 1, 2, 2, 0, 5, 3, 2, 2, 0, 1, 7, 2, 2, 2, 0, 2, 5, 2, 0, 2, 2, 1, 8, 0, 1, 0, 2, 0, 1, 1, 2, 0, 1, 2, 2, 0, 1, 3, 2, 0, 1, 4, 2, 2, 1, 5, 2, 0, 1, 6, 2, 2, 1, 7, 2, 0, 6, 2, 1, 8, 0, 1, 0, 2, 0, 1, 1, 2, 0, 1, 2, 2, 0, 1, 3, 2, 0, 1, 4, 2, 0, 1, 5, 2, 0, 1, 6, 2, 2, 1, 7, 2]
set_option maxRecDepth 1000000 in
theorem ckie_238 : ck_in0 cktb_238 ckcn_238 ckpt_238 4000 ckce_238_0 = true := by decide +kernel
set_option maxRecDepth 1000000 in
theorem ckip_238_0 : ∀ p, ckpt_238[0]? = some p → ck_inP cktb_238 ckcn_238 ckpt_238 4000 p ckce_238_1 = true := by
  intro p hp
  cases hp
  decide +kernel
set_option maxRecDepth 1000000 in
theorem ckip_238_1 : ∀ p, ckpt_238[1]? = some p → ck_inP cktb_238 ckcn_238 ckpt_238 4000 p ckce_238_2 = true := by
  intro p hp
  cases hp
  decide +kernel
theorem ckco_238 : ck_CO ckcn_238 := ck_con (tab := cktb_238) (pats := ckpt_238) (List.forall_mem_cons.mpr ⟨ckco_66, (List.forall_mem_cons.mpr ⟨ckco_236, (List.forall_mem_cons.mpr ⟨ckco_237, (fun _ h => absurd h List.not_mem_nil)⟩)⟩)⟩) ckie_238 (List.forall_mem_cons.mpr ⟨⟨4000, ckce_238_1, ckip_238_0 _ rfl⟩, (List.forall_mem_cons.mpr ⟨⟨4000, ckce_238_2, ckip_238_1 _ rfl⟩, (fun _ h => absurd h List.not_mem_nil)⟩)⟩)
def ckpt_239 : List ck_Pt := []
def cktb_239 : List ck_Co := [ckcn_101, ckcn_238]
def ckce_239_0 : List Nat := [0, 6, 4, 0, 4, 0, 1, 0, 2, 0, 1, 1, 2, 0, 1, 2, 2, 0, 0, 0, 3, 3, 0, 2, 0, 1, 2, 2, 0, 1, 0, 2, 0, 7, 3, 1, 3, 0, 1, 1, 2, 0, 0, 2, 1, 2, 2, 4, 0, 4, 0, 1, 0, 2, 0, 1, 1, 2, 0, 1, 2, 2, 0, 1, 4, 2]
set_option maxRecDepth 1000000 in
theorem ckie_239 : ck_in0 cktb_239 ckcn_239 ckpt_239 4000 ckce_239_0 = true := by decide +kernel
theorem ckco_239 : ck_CO ckcn_239 := ck_con (tab := cktb_239) (pats := ckpt_239) (List.forall_mem_cons.mpr ⟨ckco_101, (List.forall_mem_cons.mpr ⟨ckco_238, (fun _ h => absurd h List.not_mem_nil)⟩)⟩) ckie_239 (fun _ h => absurd h List.not_mem_nil)
def ckpt_240 : List ck_Pt := [(((7, [(0, .ofNat 1, .ofNat 3000), (1, .ofNat 0, .ofNat 2999), (2, .ofNat 4, .ofNat 6), (3, .negSucc 2147483647, .ofNat 2147483647), (4, .ofNat 0, .ofNat 15), (5, .ofNat 0, .ofNat 100000), (6, .ofNat 0, .ofNat 8)], [([(0, .ofNat 1), (1, .negSucc 0)], .ofNat 1, .ofNat 3000), ([(0, .ofNat 1), (5, .ofNat 1)], .ofNat 0, .ofNat 3000)], [(75, (.ofNat 10, []), (.ofNat 0, [(3, .ofNat 1)])), (75, (.ofNat 0, []), (.ofNat 0, [(0, .ofNat 1), (5, .ofNat 1)])), (77, (.negSucc 0, [(0, .ofNat 1), (1, .negSucc 0)]), (.ofNat 0, [(2, .ofNat 1)]))], [(1, (.ofNat 0, []), (.ofNat 0, [])), (7, (.ofNat 0, []), (.ofNat 0, [(0, .ofNat 1), (5, .ofNat 1)]))]), 36, [(0, (2, (.ofNat 75, []))), (1, (2, (.ofNat 28, []))), (2, (2, (.ofNat 55, []))), (3, (0, (.negSucc 0, [(0, .ofNat 1), (1, .negSucc 0)]))), (4, (0, (.ofNat 0, [(2, .ofNat 1)]))), (5, (0, (.ofNat 0, []))), (6, (0, (.negSucc 0, [(4, .ofNat 1)]))), (7, (0, (.ofNat 0, [(6, .ofNat 1)])))], []), (.ofNat 10000000, [(6, .negSucc 0)])), (((8, [(0, .ofNat 1, .ofNat 3000), (1, .ofNat 0, .ofNat 2999), (2, .ofNat 4, .ofNat 5), (3, .negSucc 2147483647, .ofNat 2147483647), (4, .ofNat 0, .ofNat 15), (5, .ofNat 0, .ofNat 100000), (6, .negSucc 2147483647, .ofNat 2147483647), (7, .ofNat 0, .ofNat 8)], [([(0, .ofNat 1), (1, .negSucc 0)], .ofNat 1, .ofNat 3000), ([(0, .ofNat 1), (5, .ofNat 1)], .ofNat 0, .ofNat 3000)], [(75, (.ofNat 10, []), (.ofNat 0, [(3, .ofNat 1)])), (75, (.ofNat 0, []), (.ofNat 0, [(0, .ofNat 1), (5, .ofNat 1)])), (77, (.negSucc 0, [(0, .ofNat 1), (1, .negSucc 0)]), (.ofNat 0, [(2, .ofNat 1)]))], [(1, (.ofNat 0, []), (.ofNat 0, [])), (7, (.ofNat 0, []), (.ofNat 0, [(0, .ofNat 1), (5, .ofNat 1)]))]), 36, [(0, (2, (.ofNat 75, []))), (1, (2, (.ofNat 28, []))), (2, (2, (.ofNat 55, []))), (3, (0, (.negSucc 0, [(0, .ofNat 1), (1, .negSucc 0)]))), (4, (0, (.ofNat 0, [(2, .ofNat 1)]))), (5, (0, (.ofNat 0, [(6, .ofNat 1)]))), (6, (0, (.negSucc 0, [(4, .ofNat 1)]))), (7, (0, (.ofNat 0, [(7, .ofNat 1)])))], []), (.ofNat 10000000, [(7, .negSucc 0)]))]
def cktb_240 : List ck_Co := [ckcn_66, ckcn_236, ckcn_239]
def ckce_240_0 : List Nat := [0, 8, 3, 0, 1, 0, 1, 2, 2, 0, 14, 2, 0, 7, 0, 1, 0, 2, 0, 1, 1, 2, 0, 1, 2, 2, 0, 1, 3, 2, 0, 1, 5, 2, 0, 0, 0, 0, 0, 14, 2, 1, 8, 0, 1, 0, 2, 0, 1, 1, 2, 0, 1, 2, 2, 0, 1, 5, 2, 0, 1, 7, 2, 0, 0, 0, 1, 3, 2, 0, 0]
def ckce_240_1 : List Nat := [0, 4, 4, 0, 4, 0, 1, 0, 2, 0, 1, 1, 2, 0, 1, 2, 2, 0, 1, 5, 2, 0, 3, 4, 0, 4, 0, 1, 0, 2, 0, 1, 1, 2, 0, 1, 2, 2, 0, 1, 5, 2, 0, 3, 0, 8, 2, 0, 7, 0, 1, 0, 2, 0, 1, 1, 2, 0, 1, 2, 2, 0, 1, 3, 2, 0, 1, 4, 2, 0, 1, 5, 2, 2, 1, 6, 2, 0, 3, 0, 2, 2, 0, 7, 0, 1, 0, 2, 0, 1, 1, 2, 0, 1, 2, 2, 0, 1, 3, 2, 0, 1, 4, 2, 0, 1, 5, 2, 2, 1, 6, 2, 0, 8, 2, 0, 7, 0, 1, 0, 2, 0, 1, 1, 2, 0, 1, 2, 2, 0, 1, 3, 2, 0, 1, 4, 2, 0, 1, 5, 2, 2, 1, 6, 2]
def ckce_240_2 : List Nat := [0, 4, 4, 0, 4, 0, 1, 0, 2, 0, 1, 1, 2, 0, 1, 2, 2, 0, 1, 5, 2, 0, 3, 4, 0, 4, 0, 1, 0, 2, 0, 1, 1, 2, 0, 1, 2, 2, 0, 1, 5, 2, 0, 3, 0, 6, 0, 2, 2, 1, 8, 0, 1, 0, 2, 0, 1, 1, 2, 0, 1, 2, 2, 0, 1, 3, 2, 0, 1, 4, 2, 0, 1, 5, 2, 0, 1, 6, 2, 2, 1, 7, 2, 0, 4, 0, 4, 3, 1, 4, 0, 1, 7, 2, 0, 2, 0, 2, 5, 2, 0, 2, 1, 2, 5, 2, 0, 1, 2, 2, 0, 5, 3, 2, 3, 0, 1, 7, 2, 2, 2, 0, 2, 5, 2, 0, 1, 2, 2, 0, 2, 2, 1, 8, 0, 1, 0, 2, 0, 1, 1, 2, 0, 1, 2, 2, 0, 1, 3, 2, 0, 1, 4, 2, 2, 2, 5, 2, 12, 2, 0, 1, 6, 2, 2, 1, 7, 2, 0, 6, 2, 1, 8, 0, 1, 0, 2, 0, 1, 1, 2, 0, 1, 2, 2, 0, 1, 3, 2, 0, 1, 4, 2, 0, 1, 5, 2, 0, 1, 6, 2, 2, 1, 7, 2, 0, 3, 0, 2, 2, 1, 8, 0, 1, 0, 2, 0, 1, 1, 2, 0, 1, 2, 2, 0, 1, 3, 2, 0, 1, 4, 2, 0, 1, 5, 2, 0, 1, 6, 2, 2, 1, 7, 2, 0, 6, 0, 2, 2, 1, 8, 0, 1, 0, 2, 0, 1, 1, 2, 0, 1, 2, 2, 0, 1, 3, 2, 0, 1, 4, 2, 0, 1, 5, 2, 0, 1, 6, 2, 2, 1, 7, 2, 0, 4, 0, 4, 3, 1, 4, 0, 1, 7, 2, 0, 2, 0, 2, 5, 2, 0, 2, 1, 2, 5, 2, 0, 1, 2, 2, 0, 5, 3, 2, 3, 0, 1, 7, 2, 2, 2, 0, 2, 5, 2, 0, 1, 2, 2, 0, 2, 2, 1, 8, 0, 1, 0, 2, 0, 1, 1, 2, 0, 1, 2, 2, 0, 1, 3, 2, 0, 1, 4, 2, 2, 2, 5, 2, 12, 2, 0, 1, 6, 2, 2, 1, 7, 2, 0, 6, 2, 1, 8, 0, 1, 0, 2, 0, 1, 1, 2, 0, 1, 2, 2, 0, 1, 3, 2, 0, 1, 4, 2, 0, 1, 5, 2, 0, 1, 6, 2, 2, 1, 7, 2]
set_option maxRecDepth 1000000 in
theorem ckie_240 : ck_in0 cktb_240 ckcn_240 ckpt_240 4000 ckce_240_0 = true := by decide +kernel
set_option maxRecDepth 1000000 in
theorem ckip_240_0 : ∀ p, ckpt_240[0]? = some p → ck_inP cktb_240 ckcn_240 ckpt_240 4000 p ckce_240_1 = true := by
  intro p hp
  cases hp
  decide +kernel
set_option maxRecDepth 1000000 in
theorem ckip_240_1 : ∀ p, ckpt_240[1]? = some p → ck_inP cktb_240 ckcn_240 ckpt_240 4000 p ckce_240_2 = true := by
  intro p hp
  cases hp
  decide +kernel
theorem ckco_240 : ck_CO ckcn_240 := ck_con (tab := cktb_240) (pats := ckpt_240) (List.forall_mem_cons.mpr ⟨ckco_66, (List.forall_mem_cons.mpr ⟨ckco_236, (List.forall_mem_cons.mpr ⟨ckco_239, (fun _ h => absurd h List.not_mem_nil)⟩)⟩)⟩) ckie_240 (List.forall_mem_cons.mpr ⟨⟨4000, ckce_240_1, ckip_240_0 _ rfl⟩, (List.forall_mem_cons.mpr ⟨⟨4000, ckce_240_2, ckip_240_1 _ rfl⟩, (fun _ h => absurd h List.not_mem_nil)⟩)⟩)
def ckpt_241 : List ck_Pt := []
def cktb_241 : List ck_Co := [ckcn_101, ckcn_240]
def ckce_241_0 : List Nat := [0, 6, 4, 0, 4, 0, 1, 0, 2, 0, 1, 1, 2, 0, 1, 2, 2, 0, 0, 0, 3, 3, 0, 2, 0, 1, 2, 2, 0, 1, 0, 2, 0, 7, 3, 1, 3, 0, 1, 1, 2, 0, 0, 2, 1, 2, 2, 4, 0, 4, 0, 1, 0, 2, 0, 1, 1, 2, 0, 1, 2, 2, 0, 1, 4, 2]
set_option maxRecDepth 1000000 in
theorem ckie_241 : ck_in0 cktb_241 ckcn_241 ckpt_241 4000 ckce_241_0 = true := by decide +kernel
theorem ckco_241 : ck_CO ckcn_241 := ck_con (tab := cktb_241) (pats := ckpt_241) (List.forall_mem_cons.mpr ⟨ckco_101, (List.forall_mem_cons.mpr ⟨ckco_240, (fun _ h => absurd h List.not_mem_nil)⟩)⟩) ckie_241 (fun _ h => absurd h List.not_mem_nil)
def ckpt_242 : List ck_Pt := [(((7, [(0, .ofNat 1, .ofNat 3000), (1, .ofNat 0, .ofNat 2999), (2, .ofNat 3, .ofNat 6), (3, .negSucc 2147483647, .ofNat 2147483647), (4, .ofNat 0, .ofNat 15), (5, .ofNat 0, .ofNat 100000), (6, .ofNat 0, .ofNat 8)], [([(0, .ofNat 1), (1, .negSucc 0)], .ofNat 1, .ofNat 3000), ([(0, .ofNat 1), (5, .ofNat 1)], .ofNat 0, .ofNat 3000)], [(75, (.ofNat 10, []), (.ofNat 0, [(3, .ofNat 1)])), (75, (.ofNat 0, []), (.ofNat 0, [(0, .ofNat 1), (5, .ofNat 1)])), (77, (.negSucc 0, [(0, .ofNat 1), (1, .negSucc 0)]), (.ofNat 0, [(2, .ofNat 1)]))], [(1, (.ofNat 0, []), (.ofNat 0, [])), (7, (.ofNat 0, []), (.ofNat 0, [(0, .ofNat 1), (5, .ofNat 1)]))]), 36, [(0, (2, (.ofNat 75, []))), (1, (2, (.ofNat 28, []))), (2, (2, (.ofNat 55, []))), (3, (0, (.negSucc 0, [(0, .ofNat 1), (1, .negSucc 0)]))), (4, (0, (.ofNat 0, [(2, .ofNat 1)]))), (5, (0, (.ofNat 0, []))), (6, (0, (.negSucc 0, [(4, .ofNat 1)]))), (7, (0, (.ofNat 0, [(6, .ofNat 1)])))], []), (.ofNat 10000000, [(6, .negSucc 0)])), (((8, [(0, .ofNat 1, .ofNat 3000), (1, .ofNat 0, .ofNat 2999), (2, .ofNat 3, .ofNat 5), (3, .negSucc 2147483647, .ofNat 2147483647), (4, .ofNat 0, .ofNat 15), (5, .ofNat 0, .ofNat 100000), (6, .negSucc 2147483647, .ofNat 2147483647), (7, .ofNat 0, .ofNat 8)], [([(0, .ofNat 1), (1, .negSucc 0)], .ofNat 1, .ofNat 3000), ([(0, .ofNat 1), (5, .ofNat 1)], .ofNat 0, .ofNat 3000)], [(75, (.ofNat 10, []), (.ofNat 0, [(3, .ofNat 1)])), (75, (.ofNat 0, []), (.ofNat 0, [(0, .ofNat 1), (5, .ofNat 1)])), (77, (.negSucc 0, [(0, .ofNat 1), (1, .negSucc 0)]), (.ofNat 0, [(2, .ofNat 1)]))], [(1, (.ofNat 0, []), (.ofNat 0, [])), (7, (.ofNat 0, []), (.ofNat 0, [(0, .ofNat 1), (5, .ofNat 1)]))]), 36, [(0, (2, (.ofNat 75, []))), (1, (2, (.ofNat 28, []))), (2, (2, (.ofNat 55, []))), (3, (0, (.negSucc 0, [(0, .ofNat 1), (1, .negSucc 0)]))), (4, (0, (.ofNat 0, [(2, .ofNat 1)]))), (5, (0, (.ofNat 0, [(6, .ofNat 1)]))), (6, (0, (.negSucc 0, [(4, .ofNat 1)]))), (7, (0, (.ofNat 0, [(7, .ofNat 1)])))], []), (.ofNat 10000000, [(7, .negSucc 0)]))]
def cktb_242 : List ck_Co := [ckcn_66, ckcn_236, ckcn_241]
def ckce_242_0 : List Nat := [0, 8, 3, 0, 1, 0, 1, 2, 2, 0, 14, 2, 0, 7, 0, 1, 0, 2, 0, 1, 1, 2, 0, 1, 2, 2, 0, 1, 3, 2, 0, 1, 5, 2, 0, 0, 0, 0, 0, 14, 2, 1, 8, 0, 1, 0, 2, 0, 1, 1, 2, 0, 1, 2, 2, 0, 1, 5, 2, 0, 1, 7, 2, 0, 0, 0, 1, 3, 2, 0, 0]
def ckce_242_1 : List Nat := [0, 4, 4, 0, 4, 0, 1, 0, 2, 0, 1, 1, 2, 0, 1, 2, 2, 0, 1, 5, 2, 0, 3, 4, 0, 4, 0, 1, 0, 2, 0, 1, 1, 2, 0, 1, 2, 2, 0, 1, 5, 2, 0, 3, 0, 8, 2, 0, 7, 0, 1, 0, 2, 0, 1, 1, 2, 0, 1, 2, 2, 0, 1, 3, 2, 0, 1, 4, 2, 0, 1, 5, 2, 2, 1, 6, 2, 0, 3, 0, 2, 2, 0, 7, 0, 1, 0, 2, 0, 1, 1, 2, 0, 1, 2, 2, 0, 1, 3, 2, 0, 1, 4, 2, 0, 1, 5, 2, 2, 1, 6, 2, 0, 8, 2, 0, 7, 0, 1, 0, 2, 0, 1, 1, 2, 0, 1, 2, 2, 0, 1, 3, 2, 0, 1, 4, 2, 0, 1, 5, 2, 2, 1, 6, 2]
def ckce_242_2 : List Nat := [0, 4, 4, 0, 4, 0, 1, 0, 2, 0, 1, 1, 2, 0, 1, 2, 2, 0, 1, 5, 2, 0, 3, 4, 0, 4, 0, 1, 0, 2, 0, 1, 1, 2, 0, 1, 2, 2, 0, 1, 5, 2, 0, 3, 0, 6, 0, 2, 2, 1, 8, 0, 1, 0, 2, 0, 1, 1, 2, 0, 1, 2, 2, 0, 1, 3, 2, 0, 1, 4, 2, 0, 1, 5, 2, 0, 1, 6, 2, 2, 1, 7, 2, 0, 4, 0, 4, 3, 1, 4, 0, 1, 7, 2, 0, 2, 0, 2, 5, 2, 0, 2, 1, 2, 5, 2, 0, 1, 2, 2, 0, 5, 3, 2, 3, 0, 1, 7, 2, 2, 2, 0, 2, 5, 2, 0, 1, 2, 2, 0, 2, 2, 1, 8, 0, 1, 0, 2, 0, 1, 1, 2, 0, 1, 2, 2, 0, 1, 3, 2, 0, 1, 4, 2, 2, 2, 5, 2, 12, 2, 0, 1, 6, 2, 2, 1, 7, 2, 0, 6, 2, 1, 8, 0, 1, 0, 2, 0, 1, 1, 2, 0, 1, 2, 2, 0, 1, 3, 2, 0, 1, 4, 2, 0, 1, 5, 2, 0, 1, 6, 2, 2, 1, 7, 2, 0, 3, 0, 2, 2, 1, 8, 0, 1, 0, 2, 0, 1, 1, 2, 0, 1, 2, 2, 0, 1, 3, 2, 0, 1, 4, 2, 0, 1, 5, 2, 0, 1, 6, 2, 2, 1, 7, 2, 0, 6, 0, 2, 2, 1, 8, 0, 1, 0, 2, 0, 1, 1, 2, 0, 1, 2, 2, 0, 1, 3, 2, 0, 1, 4, 2, 0, 1, 5, 2, 0, 1, 6, 2, 2, 1, 7, 2, 0, 4, 0, 4, 3, 1, 4, 0, 1, 7, 2, 0, 2, 0, 2, 5, 2, 0, 2, 1, 2, 5, 2, 0, 1, 2, 2, 0, 5, 3, 2, 3, 0, 1, 7, 2, 2, 2, 0, 2, 5, 2, 0, 1, 2, 2, 0, 2, 2, 1, 8, 0, 1, 0, 2, 0, 1, 1, 2, 0, 1, 2, 2, 0, 1, 3, 2, 0, 1, 4, 2, 2, 2, 5, 2, 12, 2, 0, 1, 6, 2, 2, 1, 7, 2, 0, 6, 2, 1, 8, 0, 1, 0, 2, 0, 1, 1, 2, 0, 1, 2, 2, 0, 1, 3, 2, 0, 1, 4, 2, 0, 1, 5, 2, 0, 1, 6, 2, 2, 1, 7, 2]
set_option maxRecDepth 1000000 in
theorem ckie_242 : ck_in0 cktb_242 ckcn_242 ckpt_242 4000 ckce_242_0 = true := by decide +kernel
set_option maxRecDepth 1000000 in
theorem ckip_242_0 : ∀ p, ckpt_242[0]? = some p → ck_inP cktb_242 ckcn_242 ckpt_242 4000 p ckce_242_1 = true := by
  intro p hp
  cases hp
  decide +kernel
set_option maxRecDepth 1000000 in
theorem ckip_242_1 : ∀ p, ckpt_242[1]? = some p → ck_inP cktb_242 ckcn_242 ckpt_242 4000 p ckce_242_2 = true := by
  intro p hp
  cases hp
  decide +kernel
theorem ckco_242 : ck_CO ckcn_242 := ck_con (tab := cktb_242) (pats := ckpt_242) (List.forall_mem_cons.mpr ⟨ckco_66, (List.forall_mem_cons.mpr ⟨ckco_236, (List.forall_mem_cons.mpr ⟨ckco_241, (fun _ h => absurd h List.not_mem_nil)⟩)⟩)⟩) ckie_242 (List.forall_mem_cons.mpr ⟨⟨4000, ckce_242_1, ckip_242_0 _ rfl⟩, (List.forall_mem_cons.mpr ⟨⟨4000, ckce_242_2, ckip_242_1 _ rfl⟩, (fun _ h => absurd h List.not_mem_nil)⟩)⟩)
def ckpt_243 : List ck_Pt := []
def cktb_243 : List ck_Co := [ckcn_101, ckcn_242]
def ckce_243_0 : List Nat := [0, 6, 4, 0, 4, 0, 1, 0, 2, 0, 1, 1, 2, 0, 1, 2, 2, 0, 0, 0, 3, 3, 0, 2, 0, 1, 2, 2, 0, 1, 0, 2, 0, 7, 3, 1, 3, 0, 1, 1, 2, 0, 0, 2, 1, 2, 2, 4, 0, 4, 0, 1, 0, 2, 0, 1, 1, 2, 0, 1, 2, 2, 0, 1, 4, 2]
set_option maxRecDepth 1000000 in
theorem ckie_243 : ck_in0 cktb_243 ckcn_243 ckpt_243 4000 ckce_243_0 = true := by decide +kernel
theorem ckco_243 : ck_CO ckcn_243 := ck_con (tab := cktb_243) (pats := ckpt_243) (List.forall_mem_cons.mpr ⟨ckco_101, (List.forall_mem_cons.mpr ⟨ckco_242, (fun _ h => absurd h List.not_mem_nil)⟩)⟩) ckie_243 (fun _ h => absurd h List.not_mem_nil)
def ckpt_244 : List ck_Pt := [(((7, [(0, .ofNat 1, .ofNat 3000), (1, .ofNat 0, .ofNat 2999), (2, .ofNat 2, .ofNat 6), (3, .negSucc 2147483647, .ofNat 2147483647), (4, .ofNat 0, .ofNat 15), (5, .ofNat 0, .ofNat 100000), (6, .ofNat 0, .ofNat 8)], [([(0, .ofNat 1), (1, .negSucc 0)], .ofNat 1, .ofNat 3000), ([(0, .ofNat 1), (5, .ofNat 1)], .ofNat 0, .ofNat 3000)], [(75, (.ofNat 10, []), (.ofNat 0, [(3, .ofNat 1)])), (75, (.ofNat 0, []), (.ofNat 0, [(0, .ofNat 1), (5, .ofNat 1)])), (77, (.negSucc 0, [(0, .ofNat 1), (1, .negSucc 0)]), (.ofNat 0, [(2, .ofNat 1)]))], [(1, (.ofNat 0, []), (.ofNat 0, [])), (7, (.ofNat 0, []), (.ofNat 0, [(0, .ofNat 1), (5, .ofNat 1)]))]), 36, [(0, (2, (.ofNat 75, []))), (1, (2, (.ofNat 28, []))), (2, (2, (.ofNat 55, []))), (3, (0, (.negSucc 0, [(0, .ofNat 1), (1, .negSucc 0)]))), (4, (0, (.ofNat 0, [(2, .ofNat 1)]))), (5, (0, (.ofNat 0, []))), (6, (0, (.negSucc 0, [(4, .ofNat 1)]))), (7, (0, (.ofNat 0, [(6, .ofNat 1)])))], []), (.ofNat 10000000, [(6, .negSucc 0)])), (((8, [(0, .ofNat 1, .ofNat 3000), (1, .ofNat 0, .ofNat 2999), (2, .ofNat 2, .ofNat 5), (3, .negSucc 2147483647, .ofNat 2147483647), (4, .ofNat 0, .ofNat 15), (5, .ofNat 0, .ofNat 100000), (6, .negSucc 2147483647, .ofNat 2147483647), (7, .ofNat 0, .ofNat 8)], [([(0, .ofNat 1), (1, .negSucc 0)], .ofNat 1, .ofNat 3000), ([(0, .ofNat 1), (5, .ofNat 1)], .ofNat 0, .ofNat 3000)], [(75, (.ofNat 10, []), (.ofNat 0, [(3, .ofNat 1)])), (75, (.ofNat 0, []), (.ofNat 0, [(0, .ofNat 1), (5, .ofNat 1)])), (77, (.negSucc 0, [(0, .ofNat 1), (1, .negSucc 0)]), (.ofNat 0, [(2, .ofNat 1)]))], [(1, (.ofNat 0, []), (.ofNat 0, [])), (7, (.ofNat 0, []), (.ofNat 0, [(0, .ofNat 1), (5, .ofNat 1)]))]), 36, [(0, (2, (.ofNat 75, []))), (1, (2, (.ofNat 28, []))), (2, (2, (.ofNat 55, []))), (3, (0, (.negSucc 0, [(0, .ofNat 1), (1, .negSucc 0)]))), (4, (0, (.ofNat 0, [(2, .ofNat 1)]))), (5, (0, (.ofNat 0, [(6, .ofNat 1)]))), (6, (0, (.negSucc 0, [(4, .ofNat 1)]))), (7, (0, (.ofNat 0, [(7, .ofNat 1)])))], []), (.ofNat 10000000, [(7, .negSucc 0)]))]
def cktb_244 : List ck_Co := [ckcn_66, ckcn_236, ckcn_243]
def ckce_244_0 : List Nat := [0, 8, 3, 0, 1, 0, 1, 2, 2, 0, 14, 2, 0, 7, 0, 1, 0, 2, 0, 1, 1, 2, 0, 1, 2, 2, 0, 1, 3, 2, 0, 1, 5, 2, 0, 0, 0, 0, 0, 14, 2, 1, 8, 0, 1, 0, 2, 0, 1, 1, 2, 0, 1, 2, 2, 0, 1, 5, 2, 0, 1, 7, 2, 0, 0, 0, 1, 3, 2, 0, 0]
def ckce_244_1 : List Nat := [0, 4, 4, 0, 4, 0, 1, 0, 2, 0, 1, 1, 2, 0, 1, 2, 2, 0, 1, 5, 2, 0, 3, 4, 0, 4, 0, 1, 0, 2, 0, 1, 1, 2, 0, 1, 2, 2, 0, 1, 5, 2, 0, 3, 0, 8, 2, 0, 7, 0, 1, 0, 2, 0, 1, 1, 2, 0, 1, 2, 2, 0, 1, 3, 2, 0, 1, 4, 2, 0, 1, 5, 2, 2, 1, 6, 2, 0, 3, 0, 2, 2, 0, 7, 0, 1, 0, 2, 0, 1, 1, 2, 0, 1, 2, 2, 0, 1, 3, 2, 0, 1, 4, 2, 0, 1, 5, 2, 2, 1, 6, 2, 0, 8, 2, 0, 7, 0, 1, 0, 2, 0, 1, 1, 2, 0, 1, 2, 2, 0, 1, 3, 2, 0, 1, 4, 2, 0, 1, 5, 2, 2, 1, 6, 2]
def ckce_244_2 : List Nat := [0, 4, 4, 0, 4, 0, 1, 0, 2, 0, 1, 1, 2, 0, 1, 2, 2, 0, 1, 5, 2, 0, 3, 4, 0, 4, 0, 1, 0, 2, 0, 1, 1, 2, 0, 1, 2, 2, 0, 1, 5, 2, 0, 3, 0, 6, 0, 2, 2, 1, 8, 0, 1, 0, 2, 0, 1, 1, 2, 0, 1, 2, 2, 0, 1, 3, 2, 0, 1, 4, 2, 0, 1, 5, 2, 0, 1, 6, 2, 2, 1, 7, 2, 0, 4, 0, 4, 3, 1, 4, 0, 1, 7, 2, 0, 2, 0, 2, 5, 2, 0, 2, 1, 2, 5, 2, 0, 1, 2, 2, 0, 5, 3, 2, 3, 0, 1, 7, 2, 2, 2, 0, 2, 5, 2, 0, 1, 2, 2, 0, 2, 2, 1, 8, 0, 1, 0, 2, 0, 1, 1, 2, 0, 1, 2, 2, 0, 1, 3, 2, 0, 1, 4, 2, 2, 2, 5, 2, 12, 2, 0, 1, 6, 2, 2, 1, 7, 2, 0, 6, 2, 1, 8, 0, 1, 0, 2, 0, 1, 1, 2, 0, 1, 2, 2, 0, 1, 3, 2, 0, 1, 4, 2, 0, 1, 5, 2, 0, 1, 6, 2, 2, 1, 7, 2, 0, 3, 0, 2, 2, 1, 8, 0, 1, 0, 2, 0, 1, 1, 2, 0, 1, 2, 2, 0, 1, 3, 2, 0, 1, 4, 2, 0, 1, 5, 2, 0, 1, 6, 2, 2, 1, 7, 2, 0, 6, 0, 2, 2, 1, 8, 0, 1, 0, 2, 0, 1, 1, 2, 0, 1, 2, 2, 0, 1, 3, 2, 0, 1, 4, 2, 0, 1, 5, 2, 0, 1, 6, 2, 2, 1, 7, 2, 0, 4, 0, 4, 3, 1, 4, 0, 1, 7, 2, 0, 2, 0, 2, 5, 2, 0, 2, 1, 2, 5, 2, 0, 1, 2, 2, 0, 5, 3, 2, 3, 0, 1, 7, 2, 2, 2, 0, 2, 5, 2, 0, 1, 2, 2, 0, 2, 2, 1, 8, 0, 1, 0, 2, 0, 1, 1, 2, 0, 1, 2, 2, 0, 1, 3, 2, 0, 1, 4, 2, 2, 2, 5, 2, 12, 2, 0, 1, 6, 2, 2, 1, 7, 2, 0, 6, 2, 1, 8, 0, 1, 0, 2, 0, 1, 1, 2, 0, 1, 2, 2, 0, 1, 3, 2, 0, 1, 4, 2, 0, 1, 5, 2, 0, 1, 6, 2, 2, 1, 7, 2]
set_option maxRecDepth 1000000 in
theorem ckie_244 : ck_in0 cktb_244 ckcn_244 ckpt_244 4000 ckce_244_0 = true := by decide +kernel
set_option maxRecDepth 1000000 in
theorem ckip_244_0 : ∀ p, ckpt_244[0]? = some p → ck_inP cktb_244 ckcn_244 ckpt_244 4000 p ckce_244_1 = true := by
  intro p hp
  cases hp
  decide +kernel
set_option maxRecDepth 1000000 in
theorem ckip_244_1 : ∀ p, ckpt_244[1]? = some p → ck_inP cktb_244 ckcn_244 ckpt_244 4000 p ckce_244_2 = true := by
  intro p hp
  cases hp
  decide +kernel
theorem ckco_244 : ck_CO ckcn_244 := ck_con (tab := cktb_244) (pats := ckpt_244) (List.forall_mem_cons.mpr ⟨ckco_66, (List.forall_mem_cons.mpr ⟨ckco_236, (List.forall_mem_cons.mpr ⟨ckco_243, (fun _ h => absurd h List.not_mem_nil)⟩)⟩)⟩) ckie_244 (List.forall_mem_cons.mpr ⟨⟨4000, ckce_244_1, ckip_244_0 _ rfl⟩, (List.forall_mem_cons.mpr ⟨⟨4000, ckce_244_2, ckip_244_1 _ rfl⟩, (fun _ h => absurd h List.not_mem_nil)⟩)⟩)
def ckpt_245 : List ck_Pt := []
def cktb_245 : List ck_Co := [ckcn_101, ckcn_244]
def ckce_245_0 : List Nat := [0, 6, 4, 0, 4, 0, 1, 0, 2, 0, 1, 1, 2, 0, 1, 2, 2, 0, 0, 0, 3, 3, 0, 2, 0, 1, 2, 2, 0, 1, 0, 2, 0, 7, 3, 1, 3, 0, 1, 1, 2, 0, 0, 2, 1, 2, 2, 4, 0, 4, 0, 1, 0, 2, 0, 1, 1, 2, 0, 1, 2, 2, 0, 1, 4, 2]
set_option maxRecDepth 1000000 in
theorem ckie_245 : ck_in0 cktb_245 ckcn_245 ckpt_245 4000 ckce_245_0 = true := by decide +kernel
theorem ckco_245 : ck_CO ckcn_245 := ck_con (tab := cktb_245) (pats := ckpt_245) (List.forall_mem_cons.mpr ⟨ckco_101, (List.forall_mem_cons.mpr ⟨ckco_244, (fun _ h => absurd h List.not_mem_nil)⟩)⟩) ckie_245 (fun _ h => absurd h List.not_mem_nil)
def ckpt_246 : List ck_Pt := [(((7, [(0, .ofNat 1, .ofNat 3000), (1, .ofNat 0, .ofNat 2999), (2, .ofNat 1, .ofNat 6), (3, .negSucc 2147483647, .ofNat 2147483647), (4, .ofNat 0, .ofNat 15), (5, .ofNat 0, .ofNat 100000), (6, .ofNat 0, .ofNat 8)], [([(0, .ofNat 1), (1, .negSucc 0)], .ofNat 1, .ofNat 3000), ([(0, .ofNat 1), (5, .ofNat 1)], .ofNat 0, .ofNat 3000)], [(75, (.ofNat 10, []), (.ofNat 0, [(3, .ofNat 1)])), (75, (.ofNat 0, []), (.ofNat 0, [(0, .ofNat 1), (5, .ofNat 1)])), (77, (.negSucc 0, [(0, .ofNat 1), (1, .negSucc 0)]), (.ofNat 0, [(2, .ofNat 1)]))], [(1, (.ofNat 0, []), (.ofNat 0, [])), (7, (.ofNat 0, []), (.ofNat 0, [(0, .ofNat 1), (5, .ofNat 1)]))]), 36, [(0, (2, (.ofNat 75, []))), (1, (2, (.ofNat 28, []))), (2, (2, (.ofNat 55, []))), (3, (0, (.negSucc 0, [(0, .ofNat 1), (1, .negSucc 0)]))), (4, (0, (.ofNat 0, [(2, .ofNat 1)]))), (5, (0, (.ofNat 0, []))), (6, (0, (.negSucc 0, [(4, .ofNat 1)]))), (7, (0, (.ofNat 0, [(6, .ofNat 1)])))], []), (.ofNat 10000000, [(6, .negSucc 0)])), (((8, [(0, .ofNat 1, .ofNat 3000), (1, .ofNat 0, .ofNat 2999), (2, .ofNat 1, .ofNat 5), (3, .negSucc 2147483647, .ofNat 2147483647), (4, .ofNat 0, .ofNat 15), (5, .ofNat 0, .ofNat 100000), (6, .negSucc 2147483647, .ofNat 2147483647), (7, .ofNat 0, .ofNat 8)], [([(0, .ofNat 1), (1, .negSucc 0)], .ofNat 1, .ofNat 3000), ([(0, .ofNat 1), (5, .ofNat 1)], .ofNat 0, .ofNat 3000)], [(75, (.ofNat 10, []), (.ofNat 0, [(3, .ofNat 1)])), (75, (.ofNat 0, []), (.ofNat 0, [(0, .ofNat 1), (5, .ofNat 1)])), (77, (.negSucc 0, [(0, .ofNat 1), (1, .negSucc 0)]), (.ofNat 0, [(2, .ofNat 1)]))], [(1, (.ofNat 0, []), (.ofNat 0, [])), (7, (.ofNat 0, []), (.ofNat 0, [(0, .ofNat 1), (5, .ofNat 1)]))]), 36, [(0, (2, (.ofNat 75, []))), (1, (2, (.ofNat 28, []))), (2, (2, (.ofNat 55, []))), (3, (0, (.negSucc 0, [(0, .ofNat 1), (1, .negSucc 0)]))), (4, (0, (.ofNat 0, [(2, .ofNat 1)]))), (5, (0, (.ofNat 0, [(6, .ofNat 1)]))), (6, (0, (.negSucc 0, [(4, .ofNat 1)]))), (7, (0, (.ofNat 0, [(7, .ofNat 1)])))], []), (.ofNat 10000000, [(7, .negSucc 0)]))]
def cktb_246 : List ck_Co := [ckcn_66, ckcn_236, ckcn_245]
def ckce_246_0 : List Nat := [0, 8, 3, 0, 1, 0, 1, 2, 2, 0, 14, 2, 0, 7, 0, 1, 0, 2, 0, 1, 1, 2, 0, 1, 2, 2, 0, 1, 3, 2, 0, 1, 5, 2, 0, 0, 0, 0, 0, 14, 2, 1, 8, 0, 1, 0, 2, 0, 1, 1, 2, 0, 1, 2, 2, 0, 1, 5, 2, 0, 1, 7, 2, 0, 0, 0, 1, 3, 2, 0, 0]
def ckce_246_1 : List Nat := [0, 4, 4, 0, 4, 0, 1, 0, 2, 0, 1, 1, 2, 0, 1, 2, 2, 0, 1, 5, 2, 0, 3, 4, 0, 4, 0, 1, 0, 2, 0, 1, 1, 2, 0, 1, 2, 2, 0, 1, 5, 2, 0, 3, 0, 8, 2, 0, 7, 0, 1, 0, 2, 0, 1, 1, 2, 0, 1, 2, 2, 0, 1, 3, 2, 0, 1, 4, 2, 0, 1, 5, 2, 2, 1, 6, 2, 0, 3, 0, 2, 2, 0, 7, 0, 1, 0, 2, 0, 1, 1, 2, 0, 1, 2, 2, 0, 1, 3, 2, 0, 1, 4, 2, 0, 1, 5, 2, 2, 1, 6, 2, 0, 8, 2, 0, 7, 0, 1, 0, 2, 0, 1, 1, 2, 0, 1, 2, 2, 0, 1, 3, 2, 0, 1, 4, 2, 0, 1, 5, 2, 2, 1, 6, 2]
def ckce_246_2 : List Nat := [0, 4, 4, 0, 4, 0, 1, 0, 2, 0, 1, 1, 2, 0, 1, 2, 2, 0, 1, 5, 2, 0, 3, 4, 0, 4, 0, 1, 0, 2, 0, 1, 1, 2, 0, 1, 2, 2, 0, 1, 5, 2, 0, 3, 0, 6, 0, 2, 2, 1, 8, 0, 1, 0, 2, 0, 1, 1, 2, 0, 1, 2, 2, 0, 1, 3, 2, 0, 1, 4, 2, 0, 1, 5, 2, 0, 1, 6, 2, 2, 1, 7, 2, 0, 4, 0, 4, 3, 1, 4, 0, 1, 7, 2, 0, 2, 0, 2, 5, 2, 0, 2, 1, 2, 5, 2, 0, 1, 2, 2, 0, 5, 3, 2, 3, 0, 1, 7, 2, 2, 2, 0, 2, 5, 2, 0, 1, 2, 2, 0, 2, 2, 1, 8, 0, 1, 0, 2, 0, 1, 1, 2, 0, 1, 2, 2, 0, 1, 3, 2, 0, 1, 4, 2, 2, 2, 5, 2, 12, 2, 0, 1, 6, 2, 2, 1, 7, 2, 0, 6, 2, 1, 8, 0, 1, 0, 2, 0, 1, 1, 2, 0, 1, 2, 2, 0, 1, 3, 2, 0, 1, 4, 2, 0, 1, 5, 2, 0, 1, 6, 2, 2, 1, 7, 2, 0, 3, 0, 2, 2, 1, 8, 0, 1, 0, 2, 0, 1, 1, 2, 0, 1, 2, 2, 0, 1, 3, 2, 0, 1, 4, 2, 0, 1, 5, 2, 0, 1, 6, 2, 2, 1, 7, 2, 0, 6, 0, 2, 2, 1, 8, 0, 1, 0, 2, 0, 1, 1, 2, 0, 1, 2, 2, 0, 1, 3, 2, 0, 1, 4, 2, 0, 1, 5, 2, 0, 1, 6, 2, 2, 1, 7, 2, 0, 4, 0, 4, 3, 1, 4, 0, 1, 7, 2, 0, 2, 0, 2, 5, 2, 0, 2, 1, 2, 5, 2, 0, 1, 2, 2, 0, 5, 3, 2, 3, 0, 1, 7, 2, 2, 2, 0, 2, 5, 2, 0, 1, 2, 2, 0, 2, 2, 1, 8, 0, 1, 0, 2, 0, 1, 1, 2, 0, 1, 2, 2, 0, 1, 3, 2, 0, 1, 4, 2, 2, 2, 5, 2, 12, 2, 0, 1, 6, 2, 2, 1, 7, 2, 0, 6, 2, 1, 8, 0, 1, 0, 2, 0, 1, 1, 2, 0, 1, 2, 2, 0, 1, 3, 2, 0, 1, 4, 2, 0, 1, 5, 2, 0, 1, 6, 2, 2, 1, 7, 2]
set_option maxRecDepth 1000000 in
theorem ckie_246 : ck_in0 cktb_246 ckcn_246 ckpt_246 4000 ckce_246_0 = true := by decide +kernel
set_option maxRecDepth 1000000 in
theorem ckip_246_0 : ∀ p, ckpt_246[0]? = some p → ck_inP cktb_246 ckcn_246 ckpt_246 4000 p ckce_246_1 = true := by
  intro p hp
  cases hp
  decide +kernel
set_option maxRecDepth 1000000 in
theorem ckip_246_1 : ∀ p, ckpt_246[1]? = some p → ck_inP cktb_246 ckcn_246 ckpt_246 4000 p ckce_246_2 = true := by
  intro p hp
  cases hp
  decide +kernel
theorem ckco_246 : ck_CO ckcn_246 := ck_con (tab := cktb_246) (pats := ckpt_246) (List.forall_mem_cons.mpr ⟨ckco_66, (List.forall_mem_cons.mpr ⟨ckco_236, (List.forall_mem_cons.mpr ⟨ckco_245, (fun _ h => absurd h List.not_mem_nil)⟩)⟩)⟩) ckie_246 (List.forall_mem_cons.mpr ⟨⟨4000, ckce_246_1, ckip_246_0 _ rfl⟩, (List.forall_mem_cons.mpr ⟨⟨4000, ckce_246_2, ckip_246_1 _ rfl⟩, (fun _ h => absurd h List.not_mem_nil)⟩)⟩)
def ckpt_247 : List ck_Pt := []
def cktb_247 : List ck_Co := [ckcn_101, ckcn_246]
def ckce_247_0 : List Nat := [0, 6, 4, 0, 4, 0, 1, 0, 2, 0, 1, 1, 2, 0, 1, 2, 2, 0, 0, 0, 3, 3, 0, 2, 0, 1, 2, 2, 0, 1, 0, 2, 0, 7, 3, 1, 3, 0, 1, 1, 2, 0, 0, 2, 1, 2, 2, 4, 0, 4, 0, 1, 0, 2, 0, 1, 1, 2, 0, 1, 2, 2, 0, 1, 4, 2]
set_option maxRecDepth 1000000 in
theorem ckie_247 : ck_in0 cktb_247 ckcn_247 ckpt_247 4000 ckce_247_0 = true := by decide +kernel
theorem ckco_247 : ck_CO ckcn_247 := ck_con (tab := cktb_247) (pats := ckpt_247) (List.forall_mem_cons.mpr ⟨ckco_101, (List.forall_mem_cons.mpr ⟨ckco_246, (fun _ h => absurd h List.not_mem_nil)⟩)⟩) ckie_247 (fun _ h => absurd h List.not_mem_nil)
def ckpt_248 : List ck_Pt := [(((7, [(0, .ofNat 1, .ofNat 3000), (1, .ofNat 0, .ofNat 2999), (2, .ofNat 0, .ofNat 6), (3, .negSucc 2147483647, .ofNat 2147483647), (4, .ofNat 0, .ofNat 15), (5, .ofNat 0, .ofNat 100000), (6, .ofNat 0, .ofNat 8)], [([(0, .ofNat 1), (1, .negSucc 0)], .ofNat 1, .ofNat 3000), ([(0, .ofNat 1), (5, .ofNat 1)], .ofNat 0, .ofNat 3000)], [(75, (.ofNat 10, []), (.ofNat 0, [(3, .ofNat 1)])), (75, (.ofNat 0, []), (.ofNat 0, [(0, .ofNat 1), (5, .ofNat 1)])), (77, (.negSucc 0, [(0, .ofNat 1), (1, .negSucc 0)]), (.ofNat 0, [(2, .ofNat 1)]))], [(1, (.ofNat 0, []), (.ofNat 0, [])), (7, (.ofNat 0, []), (.ofNat 0, [(0, .ofNat 1), (5, .ofNat 1)]))]), 36, [(0, (2, (.ofNat 75, []))), (1, (2, (.ofNat 28, []))), (2, (2, (.ofNat 55, []))), (3, (0, (.negSucc 0, [(0, .ofNat 1), (1, .negSucc 0)]))), (4, (0, (.ofNat 0, [(2, .ofNat 1)]))), (5, (0, (.ofNat 0, []))), (6, (0, (.negSucc 0, [(4, .ofNat 1)]))), (7, (0, (.ofNat 0, [(6, .ofNat 1)])))], []), (.ofNat 10000000, [(6, .negSucc 0)])), (((8, [(0, .ofNat 1, .ofNat 3000), (1, .ofNat 0, .ofNat 2999), (2, .ofNat 0, .ofNat 5), (3, .negSucc 2147483647, .ofNat 2147483647), (4, .ofNat 0, .ofNat 15), (5, .ofNat 0, .ofNat 100000), (6, .negSucc 2147483647, .ofNat 2147483647), (7, .ofNat 0, .ofNat 8)], [([(0, .ofNat 1), (1, .negSucc 0)], .ofNat 1, .ofNat 3000), ([(0, .ofNat 1), (5, .ofNat 1)], .ofNat 0, .ofNat 3000)], [(75, (.ofNat 10, []), (.ofNat 0, [(3, .ofNat 1)])), (75, (.ofNat 0, []), (.ofNat 0, [(0, .ofNat 1), (5, .ofNat 1)])), (77, (.negSucc 0, [(0, .ofNat 1), (1, .negSucc 0)]), (.ofNat 0, [(2, .ofNat 1)]))], [(1, (.ofNat 0, []), (.ofNat 0, [])), (7, (.ofNat 0, []), (.ofNat 0, [(0, .ofNat 1), (5, .ofNat 1)]))]), 36, [(0, (2, (.ofNat 75, []))), (1, (2, (.ofNat 28, []))), (2, (2, (.ofNat 55, []))), (3, (0, (.negSucc 0, [(0, .ofNat 1), (1, .negSucc 0)]))), (4, (0, (.ofNat 0, [(2, .ofNat 1)]))), (5, (0, (.ofNat 0, [(6, .ofNat 1)]))), (6, (0, (.negSucc 0, [(4, .ofNat 1)]))), (7, (0, (.ofNat 0, [(7, .ofNat 1)])))], []), (.ofNat 10000000, [(7, .negSucc 0)]))]
def cktb_248 : List ck_Co := [ckcn_66, ckcn_236, ckcn_247]
def ckce_248_0 : List Nat := [0, 8, 3, 0, 1, 0, 1, 2, 2, 0, 14, 2, 0, 7, 0, 1, 0, 2, 0, 1, 1, 2, 0, 1, 2, 2, 0, 1, 3, 2, 0, 1, 5, 2, 0, 0, 0, 0, 0, 14, 2, 1, 8, 0, 1, 0, 2, 0, 1, 1, 2, 0, 1, 2, 2, 0, 1, 5, 2, 0, 1, 7, 2, 0, 0, 0, 1, 3, 2, 0, 0]
def ckce_248_1 : List Nat := [0, 4, 4, 0, 4, 0, 1, 0, 2, 0, 1, 1, 2, 0, 1, 2, 2, 0, 1, 5, 2, 0, 3, 4, 0, 4, 0, 1, 0, 2, 0, 1, 1, 2, 0, 1, 2, 2, 0, 1, 5, 2, 0, 3, 0, 8, 2, 0, 7, 0, 1, 0, 2, 0, 1, 1, 2, 0, 1, 2, 2, 0, 1, 3, 2, 0, 1, 4, 2, 0, 1, 5, 2, 2, 1, 6, 2, 0, 3, 0, 2, 2, 0, 7, 0, 1, 0, 2, 0, 1, 1, 2, 0, 1, 2, 2, 0, 1, 3, 2, 0, 1, 4, 2, 0, 1, 5, 2, 2, 1, 6, 2, 0, 8, 2, 0, 7, 0, 1, 0, 2, 0, 1, 1, 2, 0, 1, 2, 2, 0, 1, 3, 2, 0, 1, 4, 2, 0, 1, 5, 2, 2, 1, 6, 2]
def ckce_248_2 : List Nat := [0, 4, 4, 0, 4, 0, 1, 0, 2, 0, 1, 1, 2, 0, 1, 2, 2, 0, 1, 5, 2, 0, 3, 4, 0, 4, 0, 1, 0, 2, 0, 1, 1, 2, 0, 1, 2, 2, 0, 1, 5, 2, 0, 3, 0, 6, 0, 2, 2, 1, 8, 0, 1, 0, 2, 0, 1, 1, 2, 0, 1, 2, 2, 0, 1, 3, 2, 0, 1, 4, 2, 0, 1, 5, 2, 0, 1, 6, 2, 2, 1, 7, 2, 0, 4, 0, 4, 3, 1, 4, 0, 1, 7, 2, 0, 2, 0, 2, 5, 2, 0, 2, 1, 2, 5, 2, 0, 1, 2, 2, 0, 5, 3, 2, 3, 0, 1, 7, 2, 2, 2, 0, 2, 5, 2, 0, 1, 2, 2, 0, 2, 2, 1, 8, 0, 1, 0, 2, 0, 1, 1, 2, 0, 1, 2, 2, 0, 1, 3, 2, 0, 1, 4, 2, 2, 2, 5, 2, 12, 2, 0, 1, 6, 2, 2, 1, 7, 2, 0, 6, 2, 1, 8, 0, 1, 0, 2, 0, 1, 1, 2, 0, 1, 2, 2, 0, 1, 3, 2, 0, 1, 4, 2, 0, 1, 5, 2, 0, 1, 6, 2, 2, 1, 7, 2, 0, 3, 0, 2, 2, 1, 8, 0, 1, 0, 2, 0, 1, 1, 2, 0, 1, 2, 2, 0, 1, 3, 2, 0, 1, 4, 2, 0, 1, 5, 2, 0, 1, 6, 2, 2, 1, 7, 2, 0, 6, 0, 2, 2, 1, 8, 0, 1, 0, 2, 0, 1, 1, 2, 0, 1, 2, 2, 0, 1, 3, 2, 0, 1, 4, 2, 0, 1, 5, 2, 0, 1, 6, 2, 2, 1, 7, 2, 0, 4, 0, 4, 3, 1, 4, 0, 1, 7, 2, 0, 2, 0, 2, 5, 2, 0, 2, 1, 2, 5, 2, 0, 1, 2, 2, 0, 5, 3, 2, 3, 0, 1, 7, 2, 2, 2, 0, 2, 5, 2, 0, 1, 2, 2, 0, 2, 2, 1, 8, 0, 1, 0, 2, 0, 1, 1, 2, 0, 1, 2, 2, 0, 1, 3, 2, 0, 1, 4, 2, 2, 2, 5, 2, 12, 2, 0, 1, 6, 2, 2, 1, 7, 2, 0, 6, 2, 1, 8, 0, 1, 0, 2, 0, 1, 1, 2, 0, 1, 2, 2, 0, 1, 3, 2, 0, 1, 4, 2, 0, 1, 5, 2, 0, 1, 6, 2, 2, 1, 7, 2]
set_option maxRecDepth 1000000 in
theorem ckie_248 : ck_in0 cktb_248 ckcn_248 ckpt_248 4000 ckce_248_0 = true := by decide +kernel
set_option maxRecDepth 1000000 in
theorem ckip_248_0 : ∀ p, ckpt_248[0]? = some p → ck_inP cktb_248 ckcn_248 ckpt_248 4000 p ckce_248_1 = true := by
  intro p hp
  cases hp
  decide +kernel
set_option maxRecDepth 1000000 in
theorem ckip_248_1 : ∀ p, ckpt_248[1]? = some p → ck_inP cktb_248 ckcn_248 ckpt_248 4000 p ckce_248_2 = true := by
  intro p hp
  cases hp
  decide +kernel
theorem ckco_248 : ck_CO ckcn_248 := ck_con (tab := cktb_248) (pats := ckpt_248) (List.forall_mem_cons.mpr ⟨ckco_66, (List.forall_mem_cons.mpr ⟨ckco_236, (List.forall_mem_cons.mpr ⟨ckco_247, (fun _ h => absurd h List.not_mem_nil)⟩)⟩)⟩) ckie_248 (List.forall_mem_cons.mpr ⟨⟨4000, ckce_248_1, ckip_248_0 _ rfl⟩, (List.forall_mem_cons.mpr ⟨⟨4000, ckce_248_2, ckip_248_1 _ rfl⟩, (fun _ h => absurd h List.not_mem_nil)⟩)⟩)
def ckpt_249 : List ck_Pt := [(((5, [(0, .ofNat 0, .ofNat 6), (1, .negSucc 2147483647, .ofNat 2147483647), (2, .ofNat 0, .ofNat 3000), (3, .negSucc 2147483647, .ofNat 2147483647), (4, .ofNat 0, .ofNat 6)], [], [(75, (.ofNat 0, []), (.ofNat 0, [(2, .ofNat 1)]))], [(7, (.ofNat 0, []), (.ofNat 0, [(2, .ofNat 1)])), (1, (.ofNat 0, []), (.ofNat 0, []))]), 6, [(0, (2, (.ofNat 75, []))), (1, (2, (.ofNat 28, []))), (2, (2, (.ofNat 55, []))), (3, (2, (.ofNat 39, []))), (4, (0, (.ofNat 0, [(0, .ofNat 1)]))), (5, (0, (.ofNat 0, [(1, .ofNat 1)]))), (6, (0, (.ofNat 0, [(3, .ofNat 1)]))), (7, (0, (.ofNat 0, [(4, .ofNat 1)])))], []), (.ofNat 10000000, [(4, .negSucc 0)]))]
def cktb_249 : List ck_Co := [ckcn_235, ckcn_65, ckcn_248]
def ckce_249_0 : List Nat := [0, 4, 2, 0, 5, 0, 1, 0, 2, 0, 1, 1, 2, 0, 1, 2, 2, 0, 0, 0, 0]
def ckce_249_1 : List Nat := [0, 3, 0, 3, 0, 22, 3, 0, 0, 0, 4, 3, 1, 1, 0, 1, 0, 2, 0, 4, 1, 1, 77, 0, 0, 3, 2, 3, 2, 0, 0, 0, 0, 1, 7, 2, 0, 4, 4, 0, 4, 0, 1, 0, 2, 0, 1, 1, 2, 0, 1, 2, 2, 2, 1, 8, 2, 0, 4, 4, 0, 4, 0, 1, 0, 2, 0, 1, 1, 2, 0, 1, 2, 2, 2, 1, 8, 2, 0, 3, 4, 0, 4, 0, 1, 0, 2, 0, 1, 1, 2, 0, 1, 2, 2, 0, 0, 0, 4, 0, 22, 3, 0, 0, 0, 4, 3, 1, 1, 0, 1, 0, 2, 0, 4, 1, 1, 77, 0, 0, 3, 2, 3, 2, 0, 0, 0, 0, 1, 8, 2, 0, 4, 4, 0, 4, 0, 1, 0, 2, 0, 1, 1, 2, 0, 1, 2, 2, 2, 1, 9, 2, 0, 4, 4, 0, 4, 0, 1, 0, 2, 0, 1, 1, 2, 0, 1, 2, 2, 2, 1, 9, 2, 0, 3, 4, 0, 4, 0, 1, 0, 2, 0, 1, 1, 2, 0, 1, 2, 2, 0, 0, 0, 4, 0, 22, 3, 0, 0, 0, 4, 3, 1, 1, 0, 1, 0, 2, 0, 4, 1, 1, 77, 0, 0, 3, 2, 3, 2, 0, 0, 0, 0, 1, 9, 2, 0, 4, 4, 0, 4, 0, 1, 0, 2, 0, 1, 1, 2, 0, 1, 2, 2, 2, 1, 10, 2, 0, 4, 4, 0, 4, 0, 1, 0, 2, 0, 1, 1, 2, 0, 1, 2, 2, 2, 1, 10, 2, 0, 3, 4, 0, 4, 0, 1, 0, 2, 0, 1, 1, 2, 0, 1, 2, 2, 0, 0, 0, 4, 0, 22, 3, 0, 0, 0, 4, 3, 1, 1, 0, 1, 0, 2, 0, 4, 1, 1, 77, 0, 0, 3, 2, 3, 2, 0, 0, 0, 0, 1, 10, 2, 0, 4, 4, 0, 4, 0, 1, 0, 2, 0, 1, 1, 2, 0, 1, 2, 2, 2, 1, 11, 2, 0, 4, 4, 0, 4, 0, 1, 0, 2, 0, 1, 1, 2, 0, 1, 2, 2, 2, 1, 11, 2, 0, 3, 4, 0, 4, 0, 1, 0, 2, 0, 1, 1, 2, 0, 1, 2, 2, 0, 0, 4, 0, 4, 0, 1, 0, 2, 0, 1, 1, 2, 0, 1, 2, 2, 0, 1, 2, 2, 0, 10, 2, 0, 5, 0, 1, 0, 2, 0, 1, 1, 2, 0, 1, 2, 2, 0, 1, 7, 2, 2, 1, 4, 2]
set_option maxRecDepth 1000000 in
theorem ckie_249 : ck_in0 cktb_249 ckcn_249 ckpt_249 4000 ckce_249_0 = true := by decide +kernel
set_option maxRecDepth 1000000 in
theorem ckip_249_0 : ∀ p, ckpt_249[0]? = some p → ck_inP cktb_249 ckcn_249 ckpt_249 4000 p ckce_249_1 = true := by
  intro p hp
  cases hp
  decide +kernel
theorem ckco_249 : ck_CO ckcn_249 := ck_con (tab := cktb_249) (pats := ckpt_249) (List.forall_mem_cons.mpr ⟨ckco_235, (List.forall_mem_cons.mpr ⟨ckco_65, (List.forall_mem_cons.mpr ⟨ckco_248, (fun _ h => absurd h List.not_mem_nil)⟩)⟩)⟩) ckie_249 (List.forall_mem_cons.mpr ⟨⟨4000, ckce_249_1, ckip_249_0 _ rfl⟩, (fun _ h => absurd h List.not_mem_nil)⟩)
def ckpt_250 : List ck_Pt := []
def cktb_250 : List ck_Co := [ckcn_249, ckcn_169]
def ckce_250_0 : List Nat := [0, 3, 0, 14, 3, 0, 3, 0, 0, 0, 1, 3, 2, 0, 1, 2, 2, 0, 1, 4, 0, 5, 0, 1, 0, 2, 0, 1, 1, 2, 0, 1, 2, 2, 0, 1, 0, 2, 0, 1, 4, 2, 0, 15, 3, 1, 2, 0, 0, 0, 1, 0, 2, 0, 1, 4, 1, 5, 0, 1, 0, 2, 0, 1, 1, 2, 0, 1, 2, 2, 0, 1, 4, 2, 0, 1, 2, 2]
set_option maxRecDepth 1000000 in
theorem ckie_250 : ck_in0 cktb_250 ckcn_250 ckpt_250 4000 ckce_250_0 = true := by decide +kernel
theorem ckco_250 : ck_CO ckcn_250 := ck_con (tab := cktb_250) (pats := ckpt_250) (List.forall_mem_cons.mpr ⟨ckco_249, (List.forall_mem_cons.mpr ⟨ckco_169, (fun _ h => absurd h List.not_mem_nil)⟩)⟩) ckie_250 (fun _ h => absurd h List.not_mem_nil)
def ckpt_251 : List ck_Pt := [(((8, [(0, .ofNat 0, .ofNat 3000), (1, .ofNat 0, .ofNat 3000), (2, .ofNat 0, .ofNat 3000), (3, .ofNat 0, .ofNat 3000), (4, .ofNat 0, .ofNat 3000), (5, .ofNat 0, .ofNat 0), (6, .ofNat 0, .ofNat 3000), (7, .negSucc 2147483647, .ofNat 2147483647)], [], [(75, (.ofNat 1, []), (.ofNat 0, [(5, .ofNat 1)])), (75, (.ofNat 7, []), (.ofNat 1, [])), (65, (.ofNat 0, []), (.ofNat 0, [(3, .ofNat 1)])), (75, (.ofNat 0, []), (.ofNat 0, [(4, .ofNat 1)])), (0, (.ofNat 3, []), (.ofNat 28, [])), (0, (.ofNat 4, []), (.ofNat 18, [])), (70, (.ofNat 0, []), (.ofNat 0, [(1, .ofNat 1)]))], [(5, (.ofNat 0, []), (.ofNat 0, [(0, .ofNat 1)])), (5, (.ofNat 0, []), (.ofNat 0, [(3, .ofNat 1)])), (7, (.ofNat 0, []), (.ofNat 0, [(4, .ofNat 1)])), (1, (.ofNat 0, []), (.ofNat 0, [])), (4, (.ofNat 0, []), (.ofNat 40, [])), (6, (.ofNat 0, []), (.ofNat 0, [(1, .ofNat 1)]))]), 19, [(1, (2, (.ofNat 75, []))), (2, (0, (.ofNat 0, [(7, .ofNat 1)]))), (3, (0, (.ofNat 0, [(6, .ofNat 1)])))], []), (.ofNat 10000000, [(6, .negSucc 0)])), (((8, [(0, .ofNat 0, .ofNat 3000), (1, .ofNat 0, .ofNat 3000), (2, .ofNat 0, .ofNat 3000), (3, .ofNat 0, .ofNat 3000), (4, .ofNat 0, .ofNat 3000), (5, .ofNat 0, .ofNat 0), (6, .ofNat 0, .ofNat 3000), (7, .negSucc 2147483647, .ofNat 2147483647)], [], [(65, (.ofNat 1, []), (.ofNat 0, [(5, .ofNat 1)])), (0, (.ofNat 13, []), (.ofNat 0, [])), (65, (.ofNat 10, []), (.ofNat 0, [])), (65, (.ofNat 7, []), (.ofNat 1, [])), (65, (.ofNat 0, []), (.ofNat 0, [(3, .ofNat 1)])), (75, (.ofNat 0, []), (.ofNat 0, [(4, .ofNat 1)])), (0, (.ofNat 3, []), (.ofNat 28, [])), (0, (.ofNat 4, []), (.ofNat 18, [])), (70, (.ofNat 0, []), (.ofNat 0, [(1, .ofNat 1)]))], [(7, (.ofNat 0, []), (.ofNat 0, [(2, .ofNat 1)])), (5, (.ofNat 0, []), (.ofNat 0, [(3, .ofNat 1)])), (7, (.ofNat 0, []), (.ofNat 0, [(4, .ofNat 1)])), (1, (.ofNat 0, []), (.ofNat 0, [])), (4, (.ofNat 0, []), (.ofNat 40, [])), (6, (.ofNat 0, []), (.ofNat 0, [(1, .ofNat 1)]))]), 19, [(1, (2, (.ofNat 65, []))), (2, (0, (.ofNat 0, [(7, .ofNat 1)]))), (3, (0, (.ofNat 0, [(6, .ofNat 1)])))], []), (.ofNat 10000000, [(6, .negSucc 0)]))]
def cktb_251 : List ck_Co := [ckcn_250]
def ckce_251_0 : List Nat := [0, 1, 3, 0, 3, 0, 1, 0, 2, 0, 1, 1, 2, 0, 1, 2, 2, 0, 4, 0, 4, 2, 0, 8, 0, 1, 0, 2, 0, 1, 1, 2, 0, 1, 2, 2, 0, 1, 3, 2, 0, 1, 4, 2, 0, 1, 5, 2, 0, 0, 0, 0, 0, 1, 4, 0, 5, 0, 1, 0, 2, 0, 1, 1, 2, 0, 1, 2, 2, 0, 1, 3, 2, 0, 1, 4, 2, 0, 4, 0, 4, 2, 1, 8, 0, 1, 0, 2, 0, 1, 1, 2, 0, 1, 2, 2, 0, 1, 3, 2, 0, 1, 4, 2, 0, 1, 5, 2, 0, 0, 0, 0, 0, 1, 4, 0, 5, 0, 1, 0, 2, 0, 1, 1, 2, 0, 1, 2, 2, 0, 1, 3, 2, 0, 1, 4, 2]
def ckce_251_1 : List Nat := [0, 4, 0, 1, 4, 1, 6, 0, 1, 0, 2, 0, 1, 1, 2, 0, 1, 2, 2, 0, 1, 7, 2, 0, 1, 3, 2, 0, 1, 4, 2, 0, 10, 0, 5, 2, 0, 8, 0, 1, 0, 2, 0, 1, 1, 2, 0, 1, 2, 2, 0, 1, 3, 2, 0, 1, 4, 2, 0, 1, 5, 2, 2, 1, 6, 2, 0, 1, 7, 2, 0, 7, 2, 0, 8, 0, 1, 0, 2, 0, 1, 1, 2, 0, 1, 2, 2, 0, 1, 3, 2, 0, 1, 4, 2, 0, 1, 5, 2, 2, 1, 6, 2, 0, 1, 10, 2]
def ckce_251_2 : List Nat := [0, 4, 0, 1, 4, 1, 6, 0, 1, 0, 2, 0, 1, 1, 2, 0, 1, 2, 2, 0, 1, 7, 2, 0, 1, 3, 2, 0, 1, 4, 2, 0, 10, 0, 5, 2, 1, 8, 0, 1, 0, 2, 0, 1, 1, 2, 0, 1, 2, 2, 0, 1, 3, 2, 0, 1, 4, 2, 0, 1, 5, 2, 2, 1, 6, 2, 0, 1, 7, 2, 0, 7, 2, 1, 8, 0, 1, 0, 2, 0, 1, 1, 2, 0, 1, 2, 2, 0, 1, 3, 2, 0, 1, 4, 2, 0, 1, 5, 2, 2, 1, 6, 2, 0, 1, 10, 2]
set_option maxRecDepth 1000000 in
theorem ckie_251 : ck_in0 cktb_251 ckcn_251 ckpt_251 4000 ckce_251_0 = true := by decide +kernel
set_option maxRecDepth 1000000 in
theorem ckip_251_0 : ∀ p, ckpt_251[0]? = some p → ck_inP cktb_251 ckcn_251 ckpt_251 4000 p ckce_251_1 = true := by
  intro p hp
  cases hp
  decide +kernel
set_option maxRecDepth 1000000 in
theorem ckip_251_1 : ∀ p, ckpt_251[1]? = some p → ck_inP cktb_251 ckcn_251 ckpt_251 4000 p ckce_251_2 = true := by
  intro p hp
  cases hp
  decide +kernel
theorem ckco_251 : ck_CO ckcn_251 := ck_con (tab := cktb_251) (pats := ckpt_251) (List.forall_mem_cons.mpr ⟨ckco_250, (fun _ h => absurd h List.not_mem_nil)⟩) ckie_251 (List.forall_mem_cons.mpr ⟨⟨4000, ckce_251_1, ckip_251_0 _ rfl⟩, (List.forall_mem_cons.mpr ⟨⟨4000, ckce_251_2, ckip_251_1 _ rfl⟩, (fun _ h => absurd h List.not_mem_nil)⟩)⟩)
def ckpt_252 : List ck_Pt := [(((3, [(0, .ofNat 0, .ofNat 2999), (1, .ofNat 1, .ofNat 6), (2, .ofNat 0, .ofNat 6)], [], [(0, (.ofNat 16, []), (.ofNat 0, [(1, .ofNat 1)])), (18, (.ofNat 12, []), (.ofNat 0, [(1, .ofNat 1)])), (0, (.ofNat 3, []), (.ofNat 18, [])), (0, (.ofNat 4, []), (.ofNat 28, []))], [(0, (.ofNat 0, []), (.ofNat 0, []))]), 13, [(0, (2, (.ofNat 0, []))), (1, (2, (.ofNat 75, []))), (2, (0, (.ofNat 0, [(0, .ofNat 1)]))), (3, (0, (.ofNat 0, [(2, .ofNat 1)])))], []), (.ofNat 10000000, [(2, .negSucc 0)]))]
def cktb_252 : List ck_Co := []
def ckce_252_0 : List Nat := [0, 7, 2, 0, 3, 0, 1, 0, 2, 0, 1, 1, 2, 0, 0]
def ckce_252_1 : List Nat := [0, 4, 4, 0, 2, 0, 1, 0, 2, 0, 1, 1, 2, 0, 26, 2, 0, 3, 0, 1, 0, 2, 0, 1, 1, 2, 2, 1, 2, 2]
set_option maxRecDepth 1000000 in
theorem ckie_252 : ck_in0 cktb_252 ckcn_252 ckpt_252 4000 ckce_252_0 = true := by decide +kernel
set_option maxRecDepth 1000000 in
theorem ckip_252_0 : ∀ p, ckpt_252[0]? = some p → ck_inP cktb_252 ckcn_252 ckpt_252 4000 p ckce_252_1 = true := by
  intro p hp
  cases hp
  decide +kernel
theorem ckco_252 : ck_CO ckcn_252 := ck_con (tab := cktb_252) (pats := ckpt_252) (fun _ h => absurd h List.not_mem_nil) ckie_252 (List.forall_mem_cons.mpr ⟨⟨4000, ckce_252_1, ckip_252_0 _ rfl⟩, (fun _ h => absurd h List.not_mem_nil)⟩)
def ckpt_253 : List ck_Pt := [(((10, [(0, .ofNat 0, .ofNat 2), (1, .ofNat 0, .ofNat 3000), (2, .ofNat 0, .ofNat 3000), (3, .ofNat 0, .ofNat 3000), (4, .ofNat 0, .ofNat 3000), (5, .ofNat 0, .ofNat 3000), (6, .ofNat 0, .ofNat 0), (7, .ofNat 0, .ofNat 3000), (8, .negSucc 999999, .ofNat 2147483647), (9, .ofNat 0, .ofNat 6)], [], [(75, (.ofNat 1, []), (.ofNat 0, [(6, .ofNat 1)])), (75, (.ofNat 7, []), (.ofNat 1, [])), (65, (.ofNat 0, []), (.ofNat 0, [(4, .ofNat 1)])), (75, (.ofNat 0, []), (.ofNat 0, [(5, .ofNat 1)])), (0, (.ofNat 16, []), (.ofNat 0, [(9, .ofNat 1)])), (0, (.ofNat 3, []), (.ofNat 18, [])), (0, (.ofNat 4, []), (.ofNat 28, [])), (70, (.ofNat 0, []), (.ofNat 0, [(2, .ofNat 1)]))], [(5, (.ofNat 0, []), (.ofNat 0, [(1, .ofNat 1)])), (5, (.ofNat 0, []), (.ofNat 0, [(4, .ofNat 1)])), (7, (.ofNat 0, []), (.ofNat 0, [(5, .ofNat 1)])), (0, (.ofNat 0, []), (.ofNat 0, [])), (4, (.ofNat 0, []), (.ofNat 40, [])), (6, (.ofNat 0, []), (.ofNat 0, [(2, .ofNat 1)]))]), 33, [(0, (2, (.ofNat 0, []))), (1, (0, (.ofNat 0, [(0, .ofNat 1)]))), (2, (2, (.ofNat 75, []))), (3, (0, (.ofNat 0, [(8, .ofNat 1)]))), (4, (0, (.ofNat 0, [(7, .ofNat 1)])))], []), (.ofNat 10000000, [(7, .negSucc 0)])), (((10, [(0, .ofNat 0, .ofNat 2), (1, .ofNat 0, .ofNat 3000), (2, .ofNat 0, .ofNat 3000), (3, .ofNat 0, .ofNat 3000), (4, .ofNat 0, .ofNat 3000), (5, .ofNat 0, .ofNat 3000), (6, .ofNat 0, .ofNat 0), (7, .ofNat 0, .ofNat 3000), (8, .negSucc 999999, .ofNat 2147483647), (9, .ofNat 0, .ofNat 6)], [], [(65, (.ofNat 1, []), (.ofNat 0, [(6, .ofNat 1)])), (0, (.ofNat 13, []), (.ofNat 0, [])), (65, (.ofNat 10, []), (.ofNat 0, [])), (65, (.ofNat 7, []), (.ofNat 1, [])), (65, (.ofNat 0, []), (.ofNat 0, [(4, .ofNat 1)])), (75, (.ofNat 0, []), (.ofNat 0, [(5, .ofNat 1)])), (0, (.ofNat 16, []), (.ofNat 0, [(9, .ofNat 1)])), (0, (.ofNat 3, []), (.ofNat 18, [])), (0, (.ofNat 4, []), (.ofNat 28, [])), (70, (.ofNat 0, []), (.ofNat 0, [(2, .ofNat 1)]))], [(7, (.ofNat 0, []), (.ofNat 0, [(3, .ofNat 1)])), (5, (.ofNat 0, []), (.ofNat 0, [(4, .ofNat 1)])), (7, (.ofNat 0, []), (.ofNat 0, [(5, .ofNat 1)])), (0, (.ofNat 0, []), (.ofNat 0, [])), (4, (.ofNat 0, []), (.ofNat 40, [])), (6, (.ofNat 0, []), (.ofNat 0, [(2, .ofNat 1)]))]), 33, [(0, (2, (.ofNat 0, []))), (1, (0, (.ofNat 0, [(0, .ofNat 1)]))), (2, (2, (.ofNat 65, []))), (3, (0, (.ofNat 0, [(8, .ofNat 1)]))), (4, (0, (.ofNat 0, [(7, .ofNat 1)])))], []), (.ofNat 10000000, [(7, .negSucc 0)]))]
def cktb_253 : List ck_Co := [ckcn_233, ckcn_252, ckcn_138]
def ckce_253_0 : List Nat := [0, 4, 3, 0, 3, 0, 1, 1, 2, 0, 1, 2, 2, 0, 1, 3, 2, 0, 5, 0, 4, 4, 0, 7, 0, 1, 0, 2, 0, 1, 1, 2, 0, 1, 2, 2, 0, 1, 3, 2, 1999999, 0, 0, 1, 4, 2, 0, 1, 5, 2, 0, 3, 0, 4, 4, 0, 7, 0, 1, 0, 2, 0, 1, 1, 2, 0, 1, 2, 2, 0, 1, 3, 2, 1999999, 0, 0, 1, 4, 2, 0, 1, 5, 2, 0, 7, 0, 4, 2, 0, 10, 0, 1, 0, 2, 0, 1, 1, 2, 0, 1, 2, 2, 0, 1, 3, 2, 0, 1, 4, 2, 0, 1, 5, 2, 0, 1, 6, 2, 0, 0, 1999999, 0, 0, 0, 0, 1, 4, 0, 7, 0, 1, 0, 2, 0, 1, 1, 2, 0, 1, 2, 2, 0, 1, 3, 2, 1999999, 0, 0, 1, 4, 2, 0, 1, 5, 2, 0, 5, 0, 4, 4, 0, 7, 0, 1, 0, 2, 0, 1, 1, 2, 0, 1, 2, 2, 0, 1, 3, 2, 1999999, 0, 0, 1, 4, 2, 0, 1, 5, 2, 0, 3, 0, 4, 4, 0, 7, 0, 1, 0, 2, 0, 1, 1, 2, 0, 1, 2, 2, 0, 1, 3, 2, 1999999, 0, 0, 1, 4, 2, 0, 1, 5, 2, 0, 7, 0, 4, 2, 1, 10, 0, 1, 0, 2, 0, 1, 1, 2, 0, 1, 2, 2, 0, 1, 3, 2, 0, 1, 4, 2, 0, 1, 5, 2, 0, 1, 6, 2, 0, 0, 1999999, 0, 0, 0, 0, 1, 4, 0, 7, 0, 1, 0, 2, 0, 1, 1, 2, 0, 1, 2, 2, 0, 1, 3, 2, 1999999, 0, 0, 1, 4, 2, 0, 1, 5, 2]
def ckce_253_1 : List Nat := [0, 4, 0, 1, 4, 0, 7, 0, 1, 0, 2, 0, 1, 1, 2, 0, 1, 2, 2, 0, 1, 3, 2, 0, 1, 8, 2, 0, 1, 4, 2, 0, 1, 5, 2, 0, 10, 0, 5, 2, 0, 10, 0, 1, 0, 2, 0, 1, 1, 2, 0, 1, 2, 2, 0, 1, 3, 2, 0, 1, 4, 2, 0, 1, 5, 2, 0, 1, 6, 2, 2, 1, 7, 2, 0, 1, 8, 2, 0, 1, 9, 2, 0, 14, 0, 2, 2, 0, 10, 0, 1, 0, 2, 0, 1, 1, 2, 0, 1, 2, 2, 0, 1, 3, 2, 0, 1, 4, 2, 0, 1, 5, 2, 0, 1, 6, 2, 2, 1, 7, 2, 0, 1, 8, 2, 0, 1, 9, 2, 0, 12, 3, 1, 1, 0, 1, 7, 2, 0, 2, 2, 0, 10, 0, 1, 0, 2, 0, 1, 1, 2, 0, 1, 2, 2, 0, 1, 3, 2, 0, 1, 4, 2, 0, 1, 5, 2, 0, 1, 6, 2, 2, 1, 7, 2, 0, 1, 12, 2, 0, 1, 13, 2]
def ckce_253_2 : List Nat := [0, 4, 0, 1, 4, 0, 7, 0, 1, 0, 2, 0, 1, 1, 2, 0, 1, 2, 2, 0, 1, 3, 2, 0, 1, 8, 2, 0, 1, 4, 2, 0, 1, 5, 2, 0, 10, 0, 5, 2, 1, 10, 0, 1, 0, 2, 0, 1, 1, 2, 0, 1, 2, 2, 0, 1, 3, 2, 0, 1, 4, 2, 0, 1, 5, 2, 0, 1, 6, 2, 2, 1, 7, 2, 0, 1, 8, 2, 0, 1, 9, 2, 0, 14, 0, 2, 2, 1, 10, 0, 1, 0, 2, 0, 1, 1, 2, 0, 1, 2, 2, 0, 1, 3, 2, 0, 1, 4, 2, 0, 1, 5, 2, 0, 1, 6, 2, 2, 1, 7, 2, 0, 1, 8, 2, 0, 1, 9, 2, 0, 12, 3, 2, 1, 0, 1, 7, 2, 0, 2, 2, 1, 10, 0, 1, 0, 2, 0, 1, 1, 2, 0, 1, 2, 2, 0, 1, 3, 2, 0, 1, 4, 2, 0, 1, 5, 2, 0, 1, 6, 2, 2, 1, 7, 2, 0, 1, 12, 2, 0, 1, 13, 2]
set_option maxRecDepth 1000000 in
theorem ckie_253 : ck_in0 cktb_253 ckcn_253 ckpt_253 4000 ckce_253_0 = true := by decide +kernel
set_option maxRecDepth 1000000 in
theorem ckip_253_0 : ∀ p, ckpt_253[0]? = some p → ck_inP cktb_253 ckcn_253 ckpt_253 4000 p ckce_253_1 = true := by
  intro p hp
  cases hp
  decide +kernel
set_option maxRecDepth 1000000 in
theorem ckip_253_1 : ∀ p, ckpt_253[1]? = some p → ck_inP cktb_253 ckcn_253 ckpt_253 4000 p ckce_253_2 = true := by
  intro p hp
  cases hp
  decide +kernel
theorem ckco_253 : ck_CO ckcn_253 := ck_con (tab := cktb_253) (pats := ckpt_253) (List.forall_mem_cons.mpr ⟨ckco_233, (List.forall_mem_cons.mpr ⟨ckco_252, (List.forall_mem_cons.mpr ⟨ckco_138, (fun _ h => absurd h List.not_mem_nil)⟩)⟩)⟩) ckie_253 (List.forall_mem_cons.mpr ⟨⟨4000, ckce_253_1, ckip_253_0 _ rfl⟩, (List.forall_mem_cons.mpr ⟨⟨4000, ckce_253_2, ckip_253_1 _ rfl⟩, (fun _ h => absurd h List.not_mem_nil)⟩)⟩)
def ckpt_254 : List ck_Pt := [(((3, [(0, .ofNat 0, .ofNat 2999), (1, .ofNat 1, .ofNat 6), (2, .ofNat 0, .ofNat 6)], [], [(0, (.ofNat 16, []), (.ofNat 0, [(1, .ofNat 1)])), (28, (.ofNat 12, []), (.ofNat 0, [(1, .ofNat 1)])), (0, (.ofNat 3, []), (.ofNat 28, [])), (0, (.ofNat 4, []), (.ofNat 18, []))], [(1, (.ofNat 0, []), (.ofNat 0, []))]), 13, [(0, (2, (.ofNat 0, []))), (1, (2, (.ofNat 75, []))), (2, (0, (.ofNat 0, [(0, .ofNat 1)]))), (3, (0, (.ofNat 0, [(2, .ofNat 1)])))], []), (.ofNat 10000000, [(2, .negSucc 0)]))]
def cktb_254 : List ck_Co := []
def ckce_254_0 : List Nat := [0, 7, 2, 0, 3, 0, 1, 0, 2, 0, 1, 1, 2, 0, 0]
def ckce_254_1 : List Nat := [0, 4, 4, 0, 2, 0, 1, 0, 2, 0, 1, 1, 2, 0, 26, 2, 0, 3, 0, 1, 0, 2, 0, 1, 1, 2, 2, 1, 2, 2]
set_option maxRecDepth 1000000 in
theorem ckie_254 : ck_in0 cktb_254 ckcn_254 ckpt_254 4000 ckce_254_0 = true := by decide +kernel
set_option maxRecDepth 1000000 in
theorem ckip_254_0 : ∀ p, ckpt_254[0]? = some p → ck_inP cktb_254 ckcn_254 ckpt_254 4000 p ckce_254_1 = true := by
  intro p hp
  cases hp
  decide +kernel
theorem ckco_254 : ck_CO ckcn_254 := ck_con (tab := cktb_254) (pats := ckpt_254) (fun _ h => absurd h List.not_mem_nil) ckie_254 (List.forall_mem_cons.mpr ⟨⟨4000, ckce_254_1, ckip_254_0 _ rfl⟩, (fun _ h => absurd h List.not_mem_nil)⟩)
def ckpt_255 : List ck_Pt := [(((10, [(0, .ofNat 0, .ofNat 2), (1, .ofNat 0, .ofNat 3000), (2, .ofNat 0, .ofNat 3000), (3, .ofNat 0, .ofNat 3000), (4, .ofNat 0, .ofNat 3000), (5, .ofNat 0, .ofNat 3000), (6, .ofNat 0, .ofNat 0), (7, .ofNat 0, .ofNat 3000), (8, .negSucc 999999, .ofNat 2147483647), (9, .ofNat 0, .ofNat 6)], [], [(75, (.ofNat 1, []), (.ofNat 0, [(6, .ofNat 1)])), (75, (.ofNat 7, []), (.ofNat 1, [])), (65, (.ofNat 0, []), (.ofNat 0, [(4, .ofNat 1)])), (75, (.ofNat 0, []), (.ofNat 0, [(5, .ofNat 1)])), (0, (.ofNat 16, []), (.ofNat 0, [(9, .ofNat 1)])), (0, (.ofNat 3, []), (.ofNat 28, [])), (0, (.ofNat 4, []), (.ofNat 18, [])), (70, (.ofNat 0, []), (.ofNat 0, [(2, .ofNat 1)]))], [(5, (.ofNat 0, []), (.ofNat 0, [(1, .ofNat 1)])), (5, (.ofNat 0, []), (.ofNat 0, [(4, .ofNat 1)])), (7, (.ofNat 0, []), (.ofNat 0, [(5, .ofNat 1)])), (1, (.ofNat 0, []), (.ofNat 0, [])), (4, (.ofNat 0, []), (.ofNat 40, [])), (6, (.ofNat 0, []), (.ofNat 0, [(2, .ofNat 1)]))]), 33, [(0, (2, (.ofNat 0, []))), (1, (0, (.ofNat 0, [(0, .ofNat 1)]))), (2, (2, (.ofNat 75, []))), (3, (0, (.ofNat 0, [(8, .ofNat 1)]))), (4, (0, (.ofNat 0, [(7, .ofNat 1)])))], []), (.ofNat 10000000, [(7, .negSucc 0)])), (((10, [(0, .ofNat 0, .ofNat 2), (1, .ofNat 0, .ofNat 3000), (2, .ofNat 0, .ofNat 3000), (3, .ofNat 0, .ofNat 3000), (4, .ofNat 0, .ofNat 3000), (5, .ofNat 0, .ofNat 3000), (6, .ofNat 0, .ofNat 0), (7, .ofNat 0, .ofNat 3000), (8, .negSucc 999999, .ofNat 2147483647), (9, .ofNat 0, .ofNat 6)], [], [(65, (.ofNat 1, []), (.ofNat 0, [(6, .ofNat 1)])), (0, (.ofNat 13, []), (.ofNat 0, [])), (65, (.ofNat 10, []), (.ofNat 0, [])), (65, (.ofNat 7, []), (.ofNat 1, [])), (65, (.ofNat 0, []), (.ofNat 0, [(4, .ofNat 1)])), (75, (.ofNat 0, []), (.ofNat 0, [(5, .ofNat 1)])), (0, (.ofNat 16, []), (.ofNat 0, [(9, .ofNat 1)])), (0, (.ofNat 3, []), (.ofNat 28, [])), (0, (.ofNat 4, []), (.ofNat 18, [])), (70, (.ofNat 0, []), (.ofNat 0, [(2, .ofNat 1)]))], [(7, (.ofNat 0, []), (.ofNat 0, [(3, .ofNat 1)])), (5, (.ofNat 0, []), (.ofNat 0, [(4, .ofNat 1)])), (7, (.ofNat 0, []), (.ofNat 0, [(5, .ofNat 1)])), (1, (.ofNat 0, []), (.ofNat 0, [])), (4, (.ofNat 0, []), (.ofNat 40, [])), (6, (.ofNat 0, []), (.ofNat 0, [(2, .ofNat 1)]))]), 33, [(0, (2, (.ofNat 0, []))), (1, (0, (.ofNat 0, [(0, .ofNat 1)]))), (2, (2, (.ofNat 65, []))), (3, (0, (.ofNat 0, [(8, .ofNat 1)]))), (4, (0, (.ofNat 0, [(7, .ofNat 1)])))], []), (.ofNat 10000000, [(7, .negSucc 0)]))]
def cktb_255 : List ck_Co := [ckcn_250, ckcn_254, ckcn_173]
def ckce_255_0 : List Nat := [0, 4, 3, 0, 3, 0, 1, 1, 2, 0, 1, 2, 2, 0, 1, 3, 2, 0, 5, 0, 4, 4, 0, 7, 0, 1, 0, 2, 0, 1, 1, 2, 0, 1, 2, 2, 0, 1, 3, 2, 1999999, 0, 0, 1, 4, 2, 0, 1, 5, 2, 0, 3, 0, 4, 4, 0, 7, 0, 1, 0, 2, 0, 1, 1, 2, 0, 1, 2, 2, 0, 1, 3, 2, 1999999, 0, 0, 1, 4, 2, 0, 1, 5, 2, 0, 7, 0, 4, 2, 0, 10, 0, 1, 0, 2, 0, 1, 1, 2, 0, 1, 2, 2, 0, 1, 3, 2, 0, 1, 4, 2, 0, 1, 5, 2, 0, 1, 6, 2, 0, 0, 1999999, 0, 0, 0, 0, 1, 4, 0, 7, 0, 1, 0, 2, 0, 1, 1, 2, 0, 1, 2, 2, 0, 1, 3, 2, 1999999, 0, 0, 1, 4, 2, 0, 1, 5, 2, 0, 5, 0, 4, 4, 0, 7, 0, 1, 0, 2, 0, 1, 1, 2, 0, 1, 2, 2, 0, 1, 3, 2, 1999999, 0, 0, 1, 4, 2, 0, 1, 5, 2, 0, 3, 0, 4, 4, 0, 7, 0, 1, 0, 2, 0, 1, 1, 2, 0, 1, 2, 2, 0, 1, 3, 2, 1999999, 0, 0, 1, 4, 2, 0, 1, 5, 2, 0, 7, 0, 4, 2, 1, 10, 0, 1, 0, 2, 0, 1, 1, 2, 0, 1, 2, 2, 0, 1, 3, 2, 0, 1, 4, 2, 0, 1, 5, 2, 0, 1, 6, 2, 0, 0, 1999999, 0, 0, 0, 0, 1, 4, 0, 7, 0, 1, 0, 2, 0, 1, 1, 2, 0, 1, 2, 2, 0, 1, 3, 2, 1999999, 0, 0, 1, 4, 2, 0, 1, 5, 2]
def ckce_255_1 : List Nat := [0, 4, 0, 1, 4, 0, 7, 0, 1, 0, 2, 0, 1, 1, 2, 0, 1, 2, 2, 0, 1, 3, 2, 0, 1, 8, 2, 0, 1, 4, 2, 0, 1, 5, 2, 0, 10, 0, 5, 2, 0, 10, 0, 1, 0, 2, 0, 1, 1, 2, 0, 1, 2, 2, 0, 1, 3, 2, 0, 1, 4, 2, 0, 1, 5, 2, 0, 1, 6, 2, 2, 1, 7, 2, 0, 1, 8, 2, 0, 1, 9, 2, 0, 14, 0, 2, 2, 0, 10, 0, 1, 0, 2, 0, 1, 1, 2, 0, 1, 2, 2, 0, 1, 3, 2, 0, 1, 4, 2, 0, 1, 5, 2, 0, 1, 6, 2, 2, 1, 7, 2, 0, 1, 8, 2, 0, 1, 9, 2, 0, 12, 3, 1, 1, 0, 1, 7, 2, 0, 2, 2, 0, 10, 0, 1, 0, 2, 0, 1, 1, 2, 0, 1, 2, 2, 0, 1, 3, 2, 0, 1, 4, 2, 0, 1, 5, 2, 0, 1, 6, 2, 2, 1, 7, 2, 0, 1, 12, 2, 0, 1, 13, 2]
def ckce_255_2 : List Nat := [0, 4, 0, 1, 4, 0, 7, 0, 1, 0, 2, 0, 1, 1, 2, 0, 1, 2, 2, 0, 1, 3, 2, 0, 1, 8, 2, 0, 1, 4, 2, 0, 1, 5, 2, 0, 10, 0, 5, 2, 1, 10, 0, 1, 0, 2, 0, 1, 1, 2, 0, 1, 2, 2, 0, 1, 3, 2, 0, 1, 4, 2, 0, 1, 5, 2, 0, 1, 6, 2, 2, 1, 7, 2, 0, 1, 8, 2, 0, 1, 9, 2, 0, 14, 0, 2, 2, 1, 10, 0, 1, 0, 2, 0, 1, 1, 2, 0, 1, 2, 2, 0, 1, 3, 2, 0, 1, 4, 2, 0, 1, 5, 2, 0, 1, 6, 2, 2, 1, 7, 2, 0, 1, 8, 2, 0, 1, 9, 2, 0, 12, 3, 2, 1, 0, 1, 7, 2, 0, 2, 2, 1, 10, 0, 1, 0, 2, 0, 1, 1, 2, 0, 1, 2, 2, 0, 1, 3, 2, 0, 1, 4, 2, 0, 1, 5, 2, 0, 1, 6, 2, 2, 1, 7, 2, 0, 1, 12, 2, 0, 1, 13, 2]
set_option maxRecDepth 1000000 in
theorem ckie_255 : ck_in0 cktb_255 ckcn_255 ckpt_255 4000 ckce_255_0 = true := by decide +kernel
set_option maxRecDepth 1000000 in
theorem ckip_255_0 : ∀ p, ckpt_255[0]? = some p → ck_inP cktb_255 ckcn_255 ckpt_255 4000 p ckce_255_1 = true := by
  intro p hp
  cases hp
  decide +kernel
set_option maxRecDepth 1000000 in
theorem ckip_255_1 : ∀ p, ckpt_255[1]? = some p → ck_inP cktb_255 ckcn_255 ckpt_255 4000 p ckce_255_2 = true := by
  intro p hp
  cases hp
  decide +kernel
theorem ckco_255 : ck_CO ckcn_255 := ck_con (tab := cktb_255) (pats := ckpt_255) (List.forall_mem_cons.mpr ⟨ckco_250, (List.forall_mem_cons.mpr ⟨ckco_254, (List.forall_mem_cons.mpr ⟨ckco_173, (fun _ h => absurd h List.not_mem_nil)⟩)⟩)⟩) ckie_255 (List.forall_mem_cons.mpr ⟨⟨4000, ckce_255_1, ckip_255_0 _ rfl⟩, (List.forall_mem_cons.mpr ⟨⟨4000, ckce_255_2, ckip_255_1 _ rfl⟩, (fun _ h => absurd h List.not_mem_nil)⟩)⟩)
def ckpt_256 : List ck_Pt := [(((3, [(0, .ofNat 0, .ofNat 5), (1, .ofNat 0, .ofNat 6), (2, .ofNat 0, .ofNat 6)], [], [], [(11, (.ofNat 0, []), (.ofNat 0, [(1, .ofNat 1)]))]), 5, [(0, (2, (.ofNat 38, []))), (1, (0, (.ofNat 0, [(0, .ofNat 1)]))), (2, (2, (.ofNat 87, []))), (3, (0, (.ofNat 0, [(1, .ofNat 1)]))), (4, (0, (.ofNat 0, [(1, .ofNat 1), (2, .ofNat 1)])))], []), (.ofNat 10000000, [(1, .negSucc 0), (2, .negSucc 0)]))]
def cktb_256 : List ck_Co := []
def ckce_256_0 : List Nat := [0, 4, 2, 0, 3, 0, 1, 0, 2, 0, 0, 0, 0]
def ckce_256_1 : List Nat := [0, 4, 0, 1, 4, 0, 2, 0, 1, 0, 2, 0, 1, 1, 2, 0, 3, 0, 2, 2, 0, 3, 0, 1, 0, 2, 0, 1, 1, 2, 2, 1, 2, 2, 0, 10, 1, 3, 11, 0, 1, 1, 2, 2, 0, 3, 0, 1, 0, 2, 2, 1, 1, 2, 0, 1, 2, 2]
set_option maxRecDepth 1000000 in
theorem ckie_256 : ck_in0 cktb_256 ckcn_256 ckpt_256 4000 ckce_256_0 = true := by decide +kernel
set_option maxRecDepth 1000000 in
theorem ckip_256_0 : ∀ p, ckpt_256[0]? = some p → ck_inP cktb_256 ckcn_256 ckpt_256 4000 p ckce_256_1 = true := by
  intro p hp
  cases hp
  decide +kernel
theorem ckco_256 : ck_CO ckcn_256 := ck_con (tab := cktb_256) (pats := ckpt_256) (fun _ h => absurd h List.not_mem_nil) ckie_256 (List.forall_mem_cons.mpr ⟨⟨4000, ckce_256_1, ckip_256_0 _ rfl⟩, (fun _ h => absurd h List.not_mem_nil)⟩)
def ckpt_257 : List ck_Pt := [(((4, [(0, .ofNat 0, .ofNat 6), (1, .ofNat 0, .ofNat 2), (2, .negSucc 2147483647, .ofNat 2147483647), (3, .ofNat 0, .ofNat 6)], [], [], [(11, (.ofNat 0, []), (.ofNat 0, [(0, .ofNat 1)]))]), 6, [(0, (2, (.ofNat 18, []))), (1, (2, (.ofNat 87, []))), (2, (0, (.ofNat 0, [(0, .ofNat 1)]))), (3, (0, (.ofNat 0, [(1, .ofNat 1)]))), (4, (0, (.ofNat 0, [(2, .ofNat 1)]))), (5, (0, (.ofNat 0, [(3, .ofNat 1)])))], []), (.ofNat 10000000, [(3, .negSucc 0)]))]
def cktb_257 : List ck_Co := []
def ckce_257_0 : List Nat := [0, 4, 2, 0, 4, 0, 1, 0, 2, 0, 1, 1, 2, 0, 0, 0, 0]
def ckce_257_1 : List Nat := [0, 3, 0, 1, 4, 0, 3, 0, 1, 0, 2, 0, 1, 1, 2, 0, 1, 2, 2, 0, 4, 0, 25, 2, 0, 4, 0, 1, 0, 2, 0, 1, 1, 2, 0, 1, 6, 2, 2, 1, 3, 2, 0, 42, 2, 0, 4, 0, 1, 0, 2, 0, 1, 1, 2, 0, 1, 8, 2, 2, 1, 3, 2]
set_option maxRecDepth 1000000 in
theorem ckie_257 : ck_in0 cktb_257 ckcn_257 ckpt_257 4000 ckce_257_0 = true := by decide +kernel
set_option maxRecDepth 1000000 in
theorem ckip_257_0 : ∀ p, ckpt_257[0]? = some p → ck_inP cktb_257 ckcn_257 ckpt_257 4000 p ckce_257_1 = true := by
  intro p hp
  cases hp
  decide +kernel
theorem ckco_257 : ck_CO ckcn_257 := ck_con (tab := cktb_257) (pats := ckpt_257) (fun _ h => absurd h List.not_mem_nil) ckie_257 (List.forall_mem_cons.mpr ⟨⟨4000, ckce_257_1, ckip_257_0 _ rfl⟩, (fun _ h => absurd h List.not_mem_nil)⟩)
def ckpt_258 : List ck_Pt := [(((10, [(0, .ofNat 0, .ofNat 2), (1, .ofNat 0, .ofNat 3000), (2, .ofNat 0, .ofNat 3000), (3, .ofNat 0, .ofNat 3000), (4, .ofNat 1, .ofNat 6), (5, .ofNat 1, .ofNat 8), (6, .ofNat 0, .ofNat 6), (7, .ofNat 0, .ofNat 6), (8, .negSucc 999999, .ofNat 2147483647), (9, .negSucc 0, .ofNat 5)], [], [(18, (.ofNat 6, []), (.ofNat 0, [(5, .ofNat 1)])), (58, (.ofNat 1, []), (.ofNat 0, [(6, .ofNat 1)])), (38, (.ofNat 1, []), (.ofNat 0, [(4, .ofNat 1)])), (0, (.ofNat 3, []), (.ofNat 18, [])), (0, (.ofNat 4, []), (.ofNat 28, [])), (65, (.ofNat 0, []), (.ofNat 0, [(1, .ofNat 1)])), (70, (.ofNat 0, []), (.ofNat 0, [(2, .ofNat 1)])), (75, (.ofNat 0, []), (.ofNat 0, [(3, .ofNat 1)]))], [(0, (.ofNat 0, []), (.ofNat 0, [])), (4, (.ofNat 0, []), (.ofNat 40, [])), (5, (.ofNat 0, []), (.ofNat 0, [(1, .ofNat 1)])), (6, (.ofNat 0, []), (.ofNat 0, [(2, .ofNat 1)])), (7, (.ofNat 0, []), (.ofNat 0, [(3, .ofNat 1)]))]), 45, [(0, (2, (.ofNat 0, []))), (1, (0, (.ofNat 0, [(0, .ofNat 1)]))), (2, (0, (.ofNat 0, [(8, .ofNat 1)]))), (3, (0, (.ofNat 0, [(9, .ofNat 1)]))), (4, (0, (.ofNat 0, [(7, .ofNat 1)])))], []), (.ofNat 10000000, [(7, .negSucc 0)]))]
def cktb_258 : List ck_Co := [ckcn_86, ckcn_256, ckcn_209, ckcn_257]
def ckce_258_0 : List Nat := [0, 4, 0, 4, 4, 0, 4, 0, 1, 0, 2, 0, 1, 1, 2, 0, 1, 2, 2, 0, 1, 3, 2, 0, 3, 0, 4, 4, 0, 4, 0, 1, 0, 2, 0, 1, 1, 2, 0, 1, 2, 2, 0, 1, 3, 2, 0, 14, 3, 0, 1, 0, 1, 4, 2, 0, 2, 4, 0, 4, 0, 1, 0, 2, 0, 1, 1, 2, 0, 1, 2, 2, 0, 1, 3, 2, 0, 1, 0, 6, 2, 0, 10, 0, 1, 0, 2, 0, 1, 1, 2, 0, 1, 2, 2, 0, 1, 3, 2, 0, 1, 4, 2, 0, 1, 6, 2, 0, 1, 7, 2, 0, 0, 1999999, 0, 1, 0, 0, 1, 4, 0, 4, 0, 1, 0, 2, 0, 1, 1, 2, 0, 1, 2, 2, 0, 1, 3, 2]
def ckce_258_1 : List Nat := [0, 5, 0, 1, 4, 1, 7, 0, 1, 0, 2, 0, 1, 1, 2, 0, 1, 2, 2, 0, 1, 3, 2, 0, 1, 9, 2, 0, 1, 5, 2, 0, 1, 4, 2, 0, 5, 3, 1, 1, 0, 1, 7, 2, 0, 8, 3, 2, 1, 0, 1, 10, 2, 0, 3, 1, 1, 58, 2, 0, 2, 0, 10, 0, 1, 0, 2, 0, 1, 1, 2, 0, 1, 2, 2, 0, 1, 3, 2, 0, 1, 4, 2, 0, 1, 5, 2, 0, 1, 11, 2, 2, 1, 7, 2, 0, 1, 8, 2, 0, 1, 9, 2, 0, 1, 0, 2, 2, 0, 10, 0, 1, 0, 2, 0, 1, 1, 2, 0, 1, 2, 2, 0, 1, 3, 2, 0, 1, 4, 2, 0, 1, 5, 2, 0, 1, 13, 2, 2, 1, 7, 2, 0, 1, 8, 2, 0, 1, 9, 2, 0, 6, 3, 3, 2, 0, 1, 10, 2, 0, 1, 0, 2, 0, 4, 0, 2, 2, 0, 10, 0, 1, 0, 2, 0, 1, 1, 2, 0, 1, 2, 2, 0, 1, 3, 2, 0, 1, 4, 2, 0, 1, 5, 2, 0, 1, 13, 2, 2, 1, 7, 2, 0, 1, 8, 2, 0, 1, 9, 2, 0, 6, 2, 0, 10, 0, 1, 0, 2, 0, 1, 1, 2, 0, 1, 2, 2, 0, 1, 3, 2, 0, 1, 4, 2, 0, 1, 5, 2, 0, 1, 13, 2, 2, 1, 7, 2, 0, 1, 14, 2, 0, 1, 7, 2]
set_option maxRecDepth 1000000 in
theorem ckie_258 : ck_in0 cktb_258 ckcn_258 ckpt_258 4000 ckce_258_0 = true := by decide +kernel
set_option maxRecDepth 1000000 in
theorem ckip_258_0 : ∀ p, ckpt_258[0]? = some p → ck_inP cktb_258 ckcn_258 ckpt_258 4000 p ckce_258_1 = true := by
  intro p hp
  cases hp
  decide +kernel
theorem ckco_258 : ck_CO ckcn_258 := ck_con (tab := cktb_258) (pats := ckpt_258) (List.forall_mem_cons.mpr ⟨ckco_86, (List.forall_mem_cons.mpr ⟨ckco_256, (List.forall_mem_cons.mpr ⟨ckco_209, (List.forall_mem_cons.mpr ⟨ckco_257, (fun _ h => absurd h List.not_mem_nil)⟩)⟩)⟩)⟩) ckie_258 (List.forall_mem_cons.mpr ⟨⟨4000, ckce_258_1, ckip_258_0 _ rfl⟩, (fun _ h => absurd h List.not_mem_nil)⟩)
def ckpt_259 : List ck_Pt := [(((4, [(0, .ofNat 0, .ofNat 6), (1, .ofNat 0, .ofNat 2), (2, .negSucc 2147483647, .ofNat 2147483647), (3, .ofNat 0, .ofNat 6)], [], [], [(11, (.ofNat 0, []), (.ofNat 0, [(0, .ofNat 1)]))]), 6, [(0, (2, (.ofNat 28, []))), (1, (2, (.ofNat 87, []))), (2, (0, (.ofNat 0, [(0, .ofNat 1)]))), (3, (0, (.ofNat 0, [(1, .ofNat 1)]))), (4, (0, (.ofNat 0, [(2, .ofNat 1)]))), (5, (0, (.ofNat 0, [(3, .ofNat 1)])))], []), (.ofNat 10000000, [(3, .negSucc 0)]))]
def cktb_259 : List ck_Co := []
def ckce_259_0 : List Nat := [0, 4, 2, 0, 4, 0, 1, 0, 2, 0, 1, 1, 2, 0, 0, 0, 0]
def ckce_259_1 : List Nat := [0, 3, 0, 1, 4, 0, 3, 0, 1, 0, 2, 0, 1, 1, 2, 0, 1, 2, 2, 0, 4, 0, 25, 2, 0, 4, 0, 1, 0, 2, 0, 1, 1, 2, 0, 1, 6, 2, 2, 1, 3, 2, 0, 42, 2, 0, 4, 0, 1, 0, 2, 0, 1, 1, 2, 0, 1, 8, 2, 2, 1, 3, 2]
set_option maxRecDepth 1000000 in
theorem ckie_259 : ck_in0 cktb_259 ckcn_259 ckpt_259 4000 ckce_259_0 = true := by decide +kernel
set_option maxRecDepth 1000000 in
theorem ckip_259_0 : ∀ p, ckpt_259[0]? = some p → ck_inP cktb_259 ckcn_259 ckpt_259 4000 p ckce_259_1 = true := by
  intro p hp
  cases hp
  decide +kernel
theorem ckco_259 : ck_CO ckcn_259 := ck_con (tab := cktb_259) (pats := ckpt_259) (fun _ h => absurd h List.not_mem_nil) ckie_259 (List.forall_mem_cons.mpr ⟨⟨4000, ckce_259_1, ckip_259_0 _ rfl⟩, (fun _ h => absurd h List.not_mem_nil)⟩)
def ckpt_260 : List ck_Pt := [(((10, [(0, .ofNat 0, .ofNat 2), (1, .ofNat 0, .ofNat 3000), (2, .ofNat 0, .ofNat 3000), (3, .ofNat 0, .ofNat 3000), (4, .ofNat 1, .ofNat 6), (5, .ofNat 1, .ofNat 8), (6, .ofNat 0, .ofNat 6), (7, .ofNat 0, .ofNat 6), (8, .negSucc 999999, .ofNat 2147483647), (9, .negSucc 0, .ofNat 5)], [], [(28, (.ofNat 6, []), (.ofNat 0, [(5, .ofNat 1)])), (58, (.ofNat 1, []), (.ofNat 0, [(6, .ofNat 1)])), (38, (.ofNat 1, []), (.ofNat 0, [(4, .ofNat 1)])), (0, (.ofNat 3, []), (.ofNat 28, [])), (0, (.ofNat 4, []), (.ofNat 18, [])), (65, (.ofNat 0, []), (.ofNat 0, [(1, .ofNat 1)])), (70, (.ofNat 0, []), (.ofNat 0, [(2, .ofNat 1)])), (75, (.ofNat 0, []), (.ofNat 0, [(3, .ofNat 1)]))], [(1, (.ofNat 0, []), (.ofNat 0, [])), (4, (.ofNat 0, []), (.ofNat 40, [])), (5, (.ofNat 0, []), (.ofNat 0, [(1, .ofNat 1)])), (6, (.ofNat 0, []), (.ofNat 0, [(2, .ofNat 1)])), (7, (.ofNat 0, []), (.ofNat 0, [(3, .ofNat 1)]))]), 45, [(0, (2, (.ofNat 0, []))), (1, (0, (.ofNat 0, [(0, .ofNat 1)]))), (2, (0, (.ofNat 0, [(8, .ofNat 1)]))), (3, (0, (.ofNat 0, [(9, .ofNat 1)]))), (4, (0, (.ofNat 0, [(7, .ofNat 1)])))], []), (.ofNat 10000000, [(7, .negSucc 0)]))]
def cktb_260 : List ck_Co := [ckcn_93, ckcn_256, ckcn_211, ckcn_259]
def ckce_260_0 : List Nat := [0, 4, 0, 4, 4, 0, 4, 0, 1, 0, 2, 0, 1, 1, 2, 0, 1, 2, 2, 0, 1, 3, 2, 0, 3, 0, 4, 4, 0, 4, 0, 1, 0, 2, 0, 1, 1, 2, 0, 1, 2, 2, 0, 1, 3, 2, 0, 14, 3, 0, 1, 0, 1, 4, 2, 0, 2, 4, 0, 4, 0, 1, 0, 2, 0, 1, 1, 2, 0, 1, 2, 2, 0, 1, 3, 2, 0, 1, 0, 6, 2, 0, 10, 0, 1, 0, 2, 0, 1, 1, 2, 0, 1, 2, 2, 0, 1, 3, 2, 0, 1, 4, 2, 0, 1, 6, 2, 0, 1, 7, 2, 0, 0, 1999999, 0, 1, 0, 0, 1, 4, 0, 4, 0, 1, 0, 2, 0, 1, 1, 2, 0, 1, 2, 2, 0, 1, 3, 2]
def ckce_260_1 : List Nat := [0, 5, 0, 1, 4, 1, 7, 0, 1, 0, 2, 0, 1, 1, 2, 0, 1, 2, 2, 0, 1, 3, 2, 0, 1, 9, 2, 0, 1, 5, 2, 0, 1, 4, 2, 0, 5, 3, 1, 1, 0, 1, 7, 2, 0, 8, 3, 2, 1, 0, 1, 10, 2, 0, 3, 1, 1, 58, 2, 0, 2, 0, 10, 0, 1, 0, 2, 0, 1, 1, 2, 0, 1, 2, 2, 0, 1, 3, 2, 0, 1, 4, 2, 0, 1, 5, 2, 0, 1, 11, 2, 2, 1, 7, 2, 0, 1, 8, 2, 0, 1, 9, 2, 0, 1, 0, 2, 2, 0, 10, 0, 1, 0, 2, 0, 1, 1, 2, 0, 1, 2, 2, 0, 1, 3, 2, 0, 1, 4, 2, 0, 1, 5, 2, 0, 1, 13, 2, 2, 1, 7, 2, 0, 1, 8, 2, 0, 1, 9, 2, 0, 6, 3, 3, 2, 0, 1, 10, 2, 0, 1, 0, 2, 0, 4, 0, 2, 2, 0, 10, 0, 1, 0, 2, 0, 1, 1, 2, 0, 1, 2, 2, 0, 1, 3, 2, 0, 1, 4, 2, 0, 1, 5, 2, 0, 1, 13, 2, 2, 1, 7, 2, 0, 1, 8, 2, 0, 1, 9, 2, 0, 6, 2, 0, 10, 0, 1, 0, 2, 0, 1, 1, 2, 0, 1, 2, 2, 0, 1, 3, 2, 0, 1, 4, 2, 0, 1, 5, 2, 0, 1, 13, 2, 2, 1, 7, 2, 0, 1, 14, 2, 0, 1, 7, 2]
set_option maxRecDepth 1000000 in
theorem ckie_260 : ck_in0 cktb_260 ckcn_260 ckpt_260 4000 ckce_260_0 = true := by decide +kernel
set_option maxRecDepth 1000000 in
theorem ckip_260_0 : ∀ p, ckpt_260[0]? = some p → ck_inP cktb_260 ckcn_260 ckpt_260 4000 p ckce_260_1 = true := by
  intro p hp
  cases hp
  decide +kernel
theorem ckco_260 : ck_CO ckcn_260 := ck_con (tab := cktb_260) (pats := ckpt_260) (List.forall_mem_cons.mpr ⟨ckco_93, (List.forall_mem_cons.mpr ⟨ckco_256, (List.forall_mem_cons.mpr ⟨ckco_211, (List.forall_mem_cons.mpr ⟨ckco_259, (fun _ h => absurd h List.not_mem_nil)⟩)⟩)⟩)⟩) ckie_260 (List.forall_mem_cons.mpr ⟨⟨4000, ckce_260_1, ckip_260_0 _ rfl⟩, (fun _ h => absurd h List.not_mem_nil)⟩)
def ckpt_261 : List ck_Pt := []
def cktb_261 : List ck_Co := []
def ckce_261_0 : List Nat := [0, 2, 0, 1, 4, 0, 4, 0, 1, 0, 2, 0, 1, 1, 2, 0, 1, 2, 2, 0, 1, 3, 2, 0, 4, 0, 1, 4, 0, 4, 0, 1, 0, 2, 0, 1, 1, 2, 0, 1, 2, 2, 0, 1, 3, 2, 0, 5, 4, 1, 6, 0, 1, 0, 2, 0, 1, 1, 2, 0, 1, 2, 2, 0, 1, 3, 2, 0, 1, 5, 2, 0, 1, 4, 2]
set_option maxRecDepth 1000000 in
theorem ckie_261 : ck_in0 cktb_261 ckcn_261 ckpt_261 4000 ckce_261_0 = true := by decide +kernel
theorem ckco_261 : ck_CO ckcn_261 := ck_con (tab := cktb_261) (pats := ckpt_261) (fun _ h => absurd h List.not_mem_nil) ckie_261 (fun _ h => absurd h List.not_mem_nil)
def ckpt_262 : List ck_Pt := []
def cktb_262 : List ck_Co := []
def ckce_262_0 : List Nat := [0, 2, 0, 1, 4, 0, 4, 0, 1, 0, 2, 0, 1, 1, 2, 0, 1, 2, 2, 0, 1, 3, 2, 0, 4, 0, 1, 4, 0, 4, 0, 1, 0, 2, 0, 1, 1, 2, 0, 1, 2, 2, 0, 1, 3, 2, 0, 5, 4, 1, 6, 0, 1, 0, 2, 0, 1, 1, 2, 0, 1, 2, 2, 0, 1, 3, 2, 0, 1, 5, 2, 0, 1, 4, 2]
set_option maxRecDepth 1000000 in
theorem ckie_262 : ck_in0 cktb_262 ckcn_262 ckpt_262 4000 ckce_262_0 = true := by decide +kernel
theorem ckco_262 : ck_CO ckcn_262 := ck_con (tab := cktb_262) (pats := ckpt_262) (fun _ h => absurd h List.not_mem_nil) ckie_262 (fun _ h => absurd h List.not_mem_nil)
def ckpt_263 : List ck_Pt := []
def cktb_263 : List ck_Co := []
def ckce_263_0 : List Nat := [0, 4, 0, 41, 4, 0, 5, 0, 1, 0, 2, 0, 1, 1, 2, 0, 1, 2, 2, 0, 1, 3, 2, 2, 1, 3, 2, 0, 1, 4, 1, 3, 0, 1, 0, 2, 0, 1, 1, 2, 0, 1, 2, 2]
set_option maxRecDepth 1000000 in
theorem ckie_263 : ck_in0 cktb_263 ckcn_263 ckpt_263 4000 ckce_263_0 = true := by decide +kernel
theorem ckco_263 : ck_CO ckcn_263 := ck_con (tab := cktb_263) (pats := ckpt_263) (fun _ h => absurd h List.not_mem_nil) ckie_263 (fun _ h => absurd h List.not_mem_nil)
def ckpt_264 : List ck_Pt := []
def cktb_264 : List ck_Co := [ckcn_263]
def ckce_264_0 : List Nat := [0, 6, 0, 4, 4, 0, 6, 0, 1, 0, 2, 0, 1, 1, 2, 0, 1, 2, 2, 0, 1, 3, 2, 0, 1, 4, 2, 0, 1, 5, 2, 0, 4, 0, 4, 4, 0, 6, 0, 1, 0, 2, 0, 1, 1, 2, 0, 1, 2, 2, 0, 1, 3, 2, 0, 1, 4, 2, 0, 1, 5, 2, 0, 10, 0, 4, 4, 0, 6, 0, 1, 0, 2, 0, 1, 1, 2, 0, 1, 2, 2, 0, 1, 3, 2, 0, 1, 4, 2, 0, 1, 5, 2, 0, 4, 0, 4, 4, 0, 6, 0, 1, 0, 2, 0, 1, 1, 2, 0, 1, 2, 2, 0, 1, 3, 2, 0, 1, 4, 2, 0, 1, 5, 2, 0, 9, 3, 0, 3, 0, 1, 0, 2, 0, 1, 1, 2, 0, 1, 2, 2, 4, 1, 9, 0, 1, 0, 2, 0, 1, 1, 2, 0, 1, 2, 2, 0, 1, 3, 2, 0, 1, 4, 2, 0, 1, 5, 2, 0, 1, 8, 2, 0, 1, 7, 2, 0, 1, 9, 2, 4, 0, 6, 0, 1, 0, 2, 0, 1, 1, 2, 0, 1, 2, 2, 0, 1, 3, 2, 0, 1, 4, 2, 0, 1, 5, 2]
set_option maxRecDepth 1000000 in
theorem ckie_264 : ck_in0 cktb_264 ckcn_264 ckpt_264 4000 ckce_264_0 = true := by decide +kernel
theorem ckco_264 : ck_CO ckcn_264 := ck_con (tab := cktb_264) (pats := ckpt_264) (List.forall_mem_cons.mpr ⟨ckco_263, (fun _ h => absurd h List.not_mem_nil)⟩) ckie_264 (fun _ h => absurd h List.not_mem_nil)
def ckpt_265 : List ck_Pt := []
def cktb_265 : List ck_Co := [ckcn_263]
def ckce_265_0 : List Nat := [0, 6, 0, 4, 4, 0, 6, 0, 1, 0, 2, 0, 1, 1, 2, 0, 1, 2, 2, 0, 1, 3, 2, 0, 1, 4, 2, 0, 1, 5, 2, 0, 4, 0, 4, 4, 0, 6, 0, 1, 0, 2, 0, 1, 1, 2, 0, 1, 2, 2, 0, 1, 3, 2, 0, 1, 4, 2, 0, 1, 5, 2, 0, 10, 0, 4, 4, 0, 6, 0, 1, 0, 2, 0, 1, 1, 2, 0, 1, 2, 2, 0, 1, 3, 2, 0, 1, 4, 2, 0, 1, 5, 2, 0, 4, 0, 4, 4, 0, 6, 0, 1, 0, 2, 0, 1, 1, 2, 0, 1, 2, 2, 0, 1, 3, 2, 0, 1, 4, 2, 0, 1, 5, 2, 0, 9, 3, 0, 3, 0, 1, 0, 2, 0, 1, 1, 2, 0, 1, 2, 2, 4, 1, 9, 0, 1, 0, 2, 0, 1, 1, 2, 0, 1, 2, 2, 0, 1, 3, 2, 0, 1, 4, 2, 0, 1, 5, 2, 0, 1, 8, 2, 0, 1, 7, 2, 0, 1, 9, 2, 4, 0, 6, 0, 1, 0, 2, 0, 1, 1, 2, 0, 1, 2, 2, 0, 1, 3, 2, 0, 1, 4, 2, 0, 1, 5, 2]
set_option maxRecDepth 1000000 in
theorem ckie_265 : ck_in0 cktb_265 ckcn_265 ckpt_265 4000 ckce_265_0 = true := by decide +kernel
theorem ckco_265 : ck_CO ckcn_265 := ck_con (tab := cktb_265) (pats := ckpt_265) (List.forall_mem_cons.mpr ⟨ckco_263, (fun _ h => absurd h List.not_mem_nil)⟩) ckie_265 (fun _ h => absurd h List.not_mem_nil)
def ckpt_266 : List ck_Pt := []
def cktb_266 : List ck_Co := []
def ckce_266_0 : List Nat := [0, 6, 0, 2, 4, 0, 4, 0, 1, 0, 2, 0, 1, 1, 2, 0, 1, 2, 2, 0, 1, 3, 2, 0, 4, 0, 2, 4, 0, 4, 0, 1, 0, 2, 0, 1, 1, 2, 0, 1, 2, 2, 0, 1, 3, 2, 0, 6, 0, 8, 4, 1, 5, 0, 1, 0, 2, 0, 1, 1, 2, 0, 1, 2, 2, 0, 1, 3, 2, 0, 1, 4, 2, 0, 2, 4, 0, 4, 0, 1, 0, 2, 0, 1, 1, 2, 0, 1, 2, 2, 0, 1, 3, 2]
set_option maxRecDepth 1000000 in
theorem ckie_266 : ck_in0 cktb_266 ckcn_266 ckpt_266 4000 ckce_266_0 = true := by decide +kernel
theorem ckco_266 : ck_CO ckcn_266 := ck_con (tab := cktb_266) (pats := ckpt_266) (fun _ h => absurd h List.not_mem_nil) ckie_266 (fun _ h => absurd h List.not_mem_nil)
def ckpt_267 : List ck_Pt := []
def cktb_267 : List ck_Co := []
def ckce_267_0 : List Nat := [0, 6, 0, 2, 4, 0, 4, 0, 1, 0, 2, 0, 1, 1, 2, 0, 1, 2, 2, 0, 1, 3, 2, 0, 4, 0, 2, 4, 0, 4, 0, 1, 0, 2, 0, 1, 1, 2, 0, 1, 2, 2, 0, 1, 3, 2, 0, 6, 0, 8, 4, 1, 5, 0, 1, 0, 2, 0, 1, 1, 2, 0, 1, 2, 2, 0, 1, 3, 2, 0, 1, 4, 2, 0, 2, 4, 0, 4, 0, 1, 0, 2, 0, 1, 1, 2, 0, 1, 2, 2, 0, 1, 3, 2]
set_option maxRecDepth 1000000 in
theorem ckie_267 : ck_in0 cktb_267 ckcn_267 ckpt_267 4000 ckce_267_0 = true := by decide +kernel
theorem ckco_267 : ck_CO ckcn_267 := ck_con (tab := cktb_267) (pats := ckpt_267) (fun _ h => absurd h List.not_mem_nil) ckie_267 (fun _ h => absurd h List.not_mem_nil)
def ckpt_268 : List ck_Pt := []
def cktb_268 : List ck_Co := []
def ckce_268_0 : List Nat := [0, 2, 0, 1, 4, 1, 5, 0, 1, 0, 2, 0, 1, 1, 2, 0, 1, 2, 2, 0, 1, 3, 2, 0, 1, 4, 2, 0, 3, 0, 1, 4, 2, 5, 0, 1, 0, 2, 0, 1, 1, 2, 0, 1, 2, 2, 0, 1, 3, 2, 0, 1, 4, 2, 0, 7, 0, 10, 4, 0, 5, 0, 1, 0, 2, 0, 1, 1, 2, 0, 1, 2, 2, 0, 1, 3, 2, 0, 1, 4, 2, 0, 1, 4, 3, 5, 0, 1, 0, 2, 0, 1, 1, 2, 0, 1, 2, 2, 0, 1, 3, 2, 0, 1, 4, 2]
set_option maxRecDepth 1000000 in
theorem ckie_268 : ck_in0 cktb_268 ckcn_268 ckpt_268 4000 ckce_268_0 = true := by decide +kernel
theorem ckco_268 : ck_CO ckcn_268 := ck_con (tab := cktb_268) (pats := ckpt_268) (fun _ h => absurd h List.not_mem_nil) ckie_268 (fun _ h => absurd h List.not_mem_nil)
def ckpt_269 : List ck_Pt := []
def cktb_269 : List ck_Co := []
def ckce_269_0 : List Nat := [0, 2, 0, 1, 4, 1, 5, 0, 1, 0, 2, 0, 1, 1, 2, 0, 1, 2, 2, 0, 1, 3, 2, 0, 1, 4, 2, 0, 3, 0, 1, 4, 2, 5, 0, 1, 0, 2, 0, 1, 1, 2, 0, 1, 2, 2, 0, 1, 3, 2, 0, 1, 4, 2, 0, 7, 0, 10, 4, 0, 5, 0, 1, 0, 2, 0, 1, 1, 2, 0, 1, 2, 2, 0, 1, 3, 2, 0, 1, 4, 2, 0, 1, 4, 3, 5, 0, 1, 0, 2, 0, 1, 1, 2, 0, 1, 2, 2, 0, 1, 3, 2, 0, 1, 4, 2]
set_option maxRecDepth 1000000 in
theorem ckie_269 : ck_in0 cktb_269 ckcn_269 ckpt_269 4000 ckce_269_0 = true := by decide +kernel
theorem ckco_269 : ck_CO ckcn_269 := ck_con (tab := cktb_269) (pats := ckpt_269) (fun _ h => absurd h List.not_mem_nil) ckie_269 (fun _ h => absurd h List.not_mem_nil)
def ckpt_270 : List ck_Pt := [(((3, [(0, .ofNat 0, .ofNat 2999), (1, .negSucc 2147483647, .ofNat 2147483647), (2, .ofNat 0, .ofNat 30)], [], [], []), 3, [(0, (2, (.ofNat 80, []))), (1, (2, (.ofNat 65, []))), (2, (0, (.ofNat 0, [(0, .ofNat 1)]))), (3, (0, (.ofNat 0, [(1, .ofNat 1)]))), (4, (0, (.ofNat 0, [(2, .ofNat 1)])))], []), (.ofNat 10000000, [(2, .negSucc 0)]))]
def cktb_270 : List ck_Co := []
def ckce_270_0 : List Nat := [0, 2, 2, 0, 3, 0, 1, 0, 2, 0, 1, 1, 2, 0, 0]
def ckce_270_1 : List Nat := [0, 4, 0, 1, 4, 0, 2, 0, 1, 0, 2, 0, 1, 1, 2, 0, 6, 0, 8, 0, 6, 2, 0, 3, 0, 1, 0, 2, 0, 1, 1, 2, 2, 1, 2, 2, 0, 35, 0, 6, 0, 2, 2, 0, 3, 0, 1, 0, 2, 0, 1, 1, 2, 2, 1, 2, 2, 0, 1, 4, 1, 3, 0, 1, 0, 2, 0, 1, 1, 2, 0, 1, 3, 2, 0, 7, 0, 2, 2, 0, 3, 0, 1, 0, 2, 0, 1, 1, 2, 2, 1, 2, 2, 0, 1, 4, 1, 3, 0, 1, 0, 2, 0, 1, 1, 2, 0, 1, 3, 2, 0, 6, 0, 8, 0, 6, 2, 0, 3, 0, 1, 0, 2, 0, 1, 1, 2, 2, 1, 2, 2, 0, 35, 0, 6, 0, 2, 2, 0, 3, 0, 1, 0, 2, 0, 1, 1, 2, 2, 1, 2, 2, 0, 1, 4, 1, 3, 0, 1, 0, 2, 0, 1, 1, 2, 0, 1, 3, 2, 0, 7, 0, 2, 2, 0, 3, 0, 1, 0, 2, 0, 1, 1, 2, 2, 1, 2, 2, 0, 1, 4, 1, 3, 0, 1, 0, 2, 0, 1, 1, 2, 0, 1, 3, 2, 0, 9, 0, 6, 2, 0, 3, 0, 1, 0, 2, 0, 1, 1, 2, 2, 1, 2, 2, 0, 8, 2, 0, 3, 0, 1, 0, 2, 0, 1, 1, 2, 2, 1, 2, 2]
set_option maxRecDepth 1000000 in
theorem ckie_270 : ck_in0 cktb_270 ckcn_270 ckpt_270 4000 ckce_270_0 = true := by decide +kernel
set_option maxRecDepth 1000000 in
theorem ckip_270_0 : ∀ p, ckpt_270[0]? = some p → ck_inP cktb_270 ckcn_270 ckpt_270 4000 p ckce_270_1 = true := by
  intro p hp
  cases hp
  decide +kernel
theorem ckco_270 : ck_CO ckcn_270 := ck_con (tab := cktb_270) (pats := ckpt_270) (fun _ h => absurd h List.not_mem_nil) ckie_270 (List.forall_mem_cons.mpr ⟨⟨4000, ckce_270_1, ckip_270_0 _ rfl⟩, (fun _ h => absurd h List.not_mem_nil)⟩)
def ckpt_271 : List ck_Pt := [(((8, [(0, .negSucc 2147483647, .ofNat 2147483647), (1, .ofNat 0, .ofNat 3000), (2, .ofNat 0, .ofNat 3000), (3, .ofNat 0, .ofNat 3000), (4, .ofNat 1, .ofNat 3000), (5, .ofNat 0, .ofNat 0), (6, .ofNat 0, .ofNat 63), (7, .ofNat 0, .ofNat 6)], [], [(61, (.ofNat 3, []), (.ofNat 1, [])), (65, (.ofNat 1, []), (.ofNat 0, [(5, .ofNat 1)])), (65, (.ofNat 10, []), (.ofNat 0, [])), (65, (.ofNat 7, []), (.ofNat 1, [])), (65, (.ofNat 0, []), (.ofNat 0, [(4, .ofNat 1)])), (0, (.ofNat 3, []), (.ofNat 18, [])), (0, (.ofNat 4, []), (.ofNat 28, [])), (70, (.ofNat 0, []), (.ofNat 0, [(2, .ofNat 1)])), (75, (.ofNat 0, []), (.ofNat 0, [(3, .ofNat 1)]))], [(5, (.ofNat 0, []), (.ofNat 0, [(4, .ofNat 1)])), (0, (.ofNat 0, []), (.ofNat 0, [])), (4, (.ofNat 0, []), (.ofNat 40, [])), (6, (.ofNat 0, []), (.ofNat 0, [(2, .ofNat 1)])), (7, (.ofNat 0, []), (.ofNat 0, [(3, .ofNat 1)]))]), 37, [(0, (2, (.ofNat 0, []))), (1, (0, (.ofNat 0, [(0, .ofNat 1)]))), (2, (2, (.ofNat 65, []))), (3, (0, (.ofNat 0, [(6, .ofNat 1)]))), (4, (0, (.ofNat 0, [(7, .ofNat 1)])))], []), (.ofNat 10000000, [(7, .negSucc 0)]))]
def cktb_271 : List ck_Co := [ckcn_129, ckcn_213, ckcn_270]
def ckce_271_0 : List Nat := [0, 13, 3, 0, 2, 0, 0, 0, 1, 1, 2, 0, 7, 0, 8, 0, 4, 4, 0, 5, 0, 1, 0, 2, 0, 1, 1, 2, 0, 1, 2, 2, 0, 1, 3, 2, 0, 1, 4, 2, 0, 7, 3, 1, 1, 0, 1, 4, 2, 0, 4, 2, 0, 8, 0, 1, 0, 2, 0, 1, 1, 2, 0, 1, 2, 2, 0, 1, 3, 2, 0, 1, 4, 2, 0, 1, 5, 2, 0, 0, 0, 0, 0, 1, 4, 1, 5, 0, 1, 0, 2, 0, 1, 1, 2, 0, 1, 2, 2, 0, 1, 3, 2, 0, 1, 4, 2]
def ckce_271_1 : List Nat := [0, 3, 0, 1, 4, 2, 6, 0, 1, 0, 2, 0, 1, 1, 2, 0, 1, 2, 2, 0, 1, 3, 2, 0, 1, 6, 2, 0, 1, 4, 2, 0, 9, 3, 2, 2, 0, 1, 8, 2, 0, 1, 0, 2, 0, 9, 2, 0, 8, 0, 1, 0, 2, 0, 1, 1, 2, 0, 1, 2, 2, 0, 1, 3, 2, 0, 1, 4, 2, 0, 1, 5, 2, 0, 1, 10, 2, 2, 1, 7, 2, 0, 3, 2, 0, 8, 0, 1, 0, 2, 0, 1, 1, 2, 0, 1, 2, 2, 0, 1, 3, 2, 0, 1, 4, 2, 0, 1, 5, 2, 0, 1, 6, 2, 2, 1, 7, 2]
set_option maxRecDepth 1000000 in
theorem ckie_271 : ck_in0 cktb_271 ckcn_271 ckpt_271 4000 ckce_271_0 = true := by decide +kernel
set_option maxRecDepth 1000000 in
theorem ckip_271_0 : ∀ p, ckpt_271[0]? = some p → ck_inP cktb_271 ckcn_271 ckpt_271 4000 p ckce_271_1 = true := by
  intro p hp
  cases hp
  decide +kernel
theorem ckco_271 : ck_CO ckcn_271 := ck_con (tab := cktb_271) (pats := ckpt_271) (List.forall_mem_cons.mpr ⟨ckco_129, (List.forall_mem_cons.mpr ⟨ckco_213, (List.forall_mem_cons.mpr ⟨ckco_270, (fun _ h => absurd h List.not_mem_nil)⟩)⟩)⟩) ckie_271 (List.forall_mem_cons.mpr ⟨⟨4000, ckce_271_1, ckip_271_0 _ rfl⟩, (fun _ h => absurd h List.not_mem_nil)⟩)
def ckpt_272 : List ck_Pt := [(((8, [(0, .negSucc 2147483647, .ofNat 2147483647), (1, .ofNat 0, .ofNat 3000), (2, .ofNat 0, .ofNat 3000), (3, .ofNat 0, .ofNat 3000), (4, .ofNat 1, .ofNat 3000), (5, .ofNat 0, .ofNat 0), (6, .ofNat 0, .ofNat 63), (7, .ofNat 0, .ofNat 6)], [], [(61, (.ofNat 3, []), (.ofNat 1, [])), (65, (.ofNat 1, []), (.ofNat 0, [(5, .ofNat 1)])), (65, (.ofNat 10, []), (.ofNat 0, [])), (65, (.ofNat 7, []), (.ofNat 1, [])), (65, (.ofNat 0, []), (.ofNat 0, [(4, .ofNat 1)])), (0, (.ofNat 3, []), (.ofNat 28, [])), (0, (.ofNat 4, []), (.ofNat 18, [])), (70, (.ofNat 0, []), (.ofNat 0, [(2, .ofNat 1)])), (75, (.ofNat 0, []), (.ofNat 0, [(3, .ofNat 1)]))], [(5, (.ofNat 0, []), (.ofNat 0, [(4, .ofNat 1)])), (1, (.ofNat 0, []), (.ofNat 0, [])), (4, (.ofNat 0, []), (.ofNat 40, [])), (6, (.ofNat 0, []), (.ofNat 0, [(2, .ofNat 1)])), (7, (.ofNat 0, []), (.ofNat 0, [(3, .ofNat 1)]))]), 37, [(0, (2, (.ofNat 0, []))), (1, (0, (.ofNat 0, [(0, .ofNat 1)]))), (2, (2, (.ofNat 65, []))), (3, (0, (.ofNat 0, [(6, .ofNat 1)]))), (4, (0, (.ofNat 0, [(7, .ofNat 1)])))], []), (.ofNat 10000000, [(7, .negSucc 0)]))]
def cktb_272 : List ck_Co := [ckcn_169, ckcn_213, ckcn_270]
def ckce_272_0 : List Nat := [0, 13, 3, 0, 2, 0, 0, 0, 1, 1, 2, 0, 7, 0, 8, 0, 4, 4, 0, 5, 0, 1, 0, 2, 0, 1, 1, 2, 0, 1, 2, 2, 0, 1, 3, 2, 0, 1, 4, 2, 0, 7, 3, 1, 1, 0, 1, 4, 2, 0, 4, 2, 0, 8, 0, 1, 0, 2, 0, 1, 1, 2, 0, 1, 2, 2, 0, 1, 3, 2, 0, 1, 4, 2, 0, 1, 5, 2, 0, 0, 0, 0, 0, 1, 4, 1, 5, 0, 1, 0, 2, 0, 1, 1, 2, 0, 1, 2, 2, 0, 1, 3, 2, 0, 1, 4, 2]
def ckce_272_1 : List Nat := [0, 3, 0, 1, 4, 2, 6, 0, 1, 0, 2, 0, 1, 1, 2, 0, 1, 2, 2, 0, 1, 3, 2, 0, 1, 6, 2, 0, 1, 4, 2, 0, 9, 3, 2, 2, 0, 1, 8, 2, 0, 1, 0, 2, 0, 9, 2, 0, 8, 0, 1, 0, 2, 0, 1, 1, 2, 0, 1, 2, 2, 0, 1, 3, 2, 0, 1, 4, 2, 0, 1, 5, 2, 0, 1, 10, 2, 2, 1, 7, 2, 0, 3, 2, 0, 8, 0, 1, 0, 2, 0, 1, 1, 2, 0, 1, 2, 2, 0, 1, 3, 2, 0, 1, 4, 2, 0, 1, 5, 2, 0, 1, 6, 2, 2, 1, 7, 2]
set_option maxRecDepth 1000000 in
theorem ckie_272 : ck_in0 cktb_272 ckcn_272 ckpt_272 4000 ckce_272_0 = true := by decide +kernel
set_option maxRecDepth 1000000 in
theorem ckip_272_0 : ∀ p, ckpt_272[0]? = some p → ck_inP cktb_272 ckcn_272 ckpt_272 4000 p ckce_272_1 = true := by
  intro p hp
  cases hp
  decide +kernel
theorem ckco_272 : ck_CO ckcn_272 := ck_con (tab := cktb_272) (pats := ckpt_272) (List.forall_mem_cons.mpr ⟨ckco_169, (List.forall_mem_cons.mpr ⟨ckco_213, (List.forall_mem_cons.mpr ⟨ckco_270, (fun _ h => absurd h List.not_mem_nil)⟩)⟩)⟩) ckie_272 (List.forall_mem_cons.mpr ⟨⟨4000, ckce_272_1, ckip_272_0 _ rfl⟩, (fun _ h => absurd h List.not_mem_nil)⟩)
def ckpt_273 : List ck_Pt := []
def cktb_273 : List ck_Co := []
def ckce_273_0 : List Nat := [0, 2, 0, 1, 4, 0, 4, 0, 1, 0, 2, 0, 1, 1, 2, 0, 1, 2, 2, 0, 1, 3, 2, 0, 3, 0, 3, 1, 0, 0, 1, 0, 2, 0, 31, 4, 1, 5, 0, 1, 0, 2, 0, 1, 1, 2, 0, 1, 2, 2, 0, 1, 3, 2, 0, 1, 4, 2, 1, 0, 1, 1, 0, 2, 0, 31, 4, 1, 5, 0, 1, 0, 2, 0, 1, 1, 2, 0, 1, 2, 2, 0, 1, 3, 2, 0, 1, 4, 2, 0, 31, 4, 1, 5, 0, 1, 0, 2, 0, 1, 1, 2, 0, 1, 2, 2, 0, 1, 3, 2, 0, 1, 4, 2, 0, 1, 4, 0, 4, 0, 1, 0, 2, 0, 1, 1, 2, 0, 1, 2, 2, 0, 1, 3, 2]
set_option maxRecDepth 1000000 in
theorem ckie_273 : ck_in0 cktb_273 ckcn_273 ckpt_273 4000 ckce_273_0 = true := by decide +kernel
theorem ckco_273 : ck_CO ckcn_273 := ck_con (tab := cktb_273) (pats := ckpt_273) (fun _ h => absurd h List.not_mem_nil) ckie_273 (fun _ h => absurd h List.not_mem_nil)
def ckpt_274 : List ck_Pt := []
def cktb_274 : List ck_Co := []
def ckce_274_0 : List Nat := [0, 2, 0, 1, 4, 0, 4, 0, 1, 0, 2, 0, 1, 1, 2, 0, 1, 2, 2, 0, 1, 3, 2, 0, 3, 0, 3, 1, 0, 0, 1, 0, 2, 0, 31, 4, 1, 5, 0, 1, 0, 2, 0, 1, 1, 2, 0, 1, 2, 2, 0, 1, 3, 2, 0, 1, 4, 2, 1, 0, 1, 1, 0, 2, 0, 31, 4, 1, 5, 0, 1, 0, 2, 0, 1, 1, 2, 0, 1, 2, 2, 0, 1, 3, 2, 0, 1, 4, 2, 0, 31, 4, 1, 5, 0, 1, 0, 2, 0, 1, 1, 2, 0, 1, 2, 2, 0, 1, 3, 2, 0, 1, 4, 2, 0, 1, 4, 0, 4, 0, 1, 0, 2, 0, 1, 1, 2, 0, 1, 2, 2, 0, 1, 3, 2]
set_option maxRecDepth 1000000 in
theorem ckie_274 : ck_in0 cktb_274 ckcn_274 ckpt_274 4000 ckce_274_0 = true := by decide +kernel
theorem ckco_274 : ck_CO ckcn_274 := ck_con (tab := cktb_274) (pats := ckpt_274) (fun _ h => absurd h List.not_mem_nil) ckie_274 (fun _ h => absurd h List.not_mem_nil)
def ckpt_275 : List ck_Pt := []
def cktb_275 : List ck_Co := []
def ckce_275_0 : List Nat := [0, 2, 0, 1, 4, 0, 4, 0, 1, 0, 2, 0, 1, 1, 2, 0, 1, 2, 2, 0, 1, 3, 2, 0, 3, 0, 1, 4, 0, 4, 0, 1, 0, 2, 0, 1, 1, 2, 0, 1, 2, 2, 0, 1, 3, 2, 0, 3, 1, 0, 0, 1, 0, 2, 0, 3, 0, 40, 4, 1, 5, 0, 1, 0, 2, 0, 1, 1, 2, 0, 1, 2, 2, 0, 1, 3, 2, 0, 1, 5, 2, 0, 1, 4, 0, 4, 0, 1, 0, 2, 0, 1, 1, 2, 0, 1, 2, 2, 0, 1, 3, 2, 1, 0, 1, 1, 0, 2, 0, 3, 0, 40, 4, 1, 5, 0, 1, 0, 2, 0, 1, 1, 2, 0, 1, 2, 2, 0, 1, 3, 2, 0, 1, 5, 2, 0, 1, 4, 0, 4, 0, 1, 0, 2, 0, 1, 1, 2, 0, 1, 2, 2, 0, 1, 3, 2, 0, 3, 0, 40, 4, 1, 5, 0, 1, 0, 2, 0, 1, 1, 2, 0, 1, 2, 2, 0, 1, 3, 2, 0, 1, 5, 2, 0, 1, 4, 0, 4, 0, 1, 0, 2, 0, 1, 1, 2, 0, 1, 2, 2, 0, 1, 3, 2]
set_option maxRecDepth 1000000 in
theorem ckie_275 : ck_in0 cktb_275 ckcn_275 ckpt_275 4000 ckce_275_0 = true := by decide +kernel
theorem ckco_275 : ck_CO ckcn_275 := ck_con (tab := cktb_275) (pats := ckpt_275) (fun _ h => absurd h List.not_mem_nil) ckie_275 (fun _ h => absurd h List.not_mem_nil)
def ckpt_276 : List ck_Pt := []
def cktb_276 : List ck_Co := []
def ckce_276_0 : List Nat := [0, 2, 0, 1, 4, 0, 4, 0, 1, 0, 2, 0, 1, 1, 2, 0, 1, 2, 2, 0, 1, 3, 2, 0, 3, 0, 1, 4, 0, 4, 0, 1, 0, 2, 0, 1, 1, 2, 0, 1, 2, 2, 0, 1, 3, 2, 0, 3, 1, 0, 0, 1, 0, 2, 0, 3, 0, 40, 4, 1, 5, 0, 1, 0, 2, 0, 1, 1, 2, 0, 1, 2, 2, 0, 1, 3, 2, 0, 1, 5, 2, 0, 1, 4, 0, 4, 0, 1, 0, 2, 0, 1, 1, 2, 0, 1, 2, 2, 0, 1, 3, 2, 1, 0, 1, 1, 0, 2, 0, 3, 0, 40, 4, 1, 5, 0, 1, 0, 2, 0, 1, 1, 2, 0, 1, 2, 2, 0, 1, 3, 2, 0, 1, 5, 2, 0, 1, 4, 0, 4, 0, 1, 0, 2, 0, 1, 1, 2, 0, 1, 2, 2, 0, 1, 3, 2, 0, 3, 0, 40, 4, 1, 5, 0, 1, 0, 2, 0, 1, 1, 2, 0, 1, 2, 2, 0, 1, 3, 2, 0, 1, 5, 2, 0, 1, 4, 0, 4, 0, 1, 0, 2, 0, 1, 1, 2, 0, 1, 2, 2, 0, 1, 3, 2]
set_option maxRecDepth 1000000 in
theorem ckie_276 : ck_in0 cktb_276 ckcn_276 ckpt_276 4000 ckce_276_0 = true := by decide +kernel
theorem ckco_276 : ck_CO ckcn_276 := ck_con (tab := cktb_276) (pats := ckpt_276) (fun _ h => absurd h List.not_mem_nil) ckie_276 (fun _ h => absurd h List.not_mem_nil)
def ckpt_277 : List ck_Pt := []
def cktb_277 : List ck_Co := []
def ckce_277_0 : List Nat := [0, 2, 0, 1, 4, 0, 4, 0, 1, 0, 2, 0, 1, 1, 2, 0, 1, 2, 2, 0, 1, 3, 2, 0, 1, 4, 0, 4, 0, 1, 0, 2, 0, 1, 1, 2, 0, 1, 2, 2, 0, 1, 3, 2, 0, 3, 4, 1, 5, 0, 1, 0, 2, 0, 1, 1, 2, 0, 1, 2, 2, 0, 1, 3, 2, 0, 1, 4, 2, 0, 3, 4, 1, 5, 0, 1, 0, 2, 0, 1, 1, 2, 0, 1, 2, 2, 0, 1, 3, 2, 0, 1, 4, 2, 0, 3, 4, 1, 5, 0, 1, 0, 2, 0, 1, 1, 2, 0, 1, 2, 2, 0, 1, 3, 2, 0, 1, 4, 2, 0, 3, 4, 1, 5, 0, 1, 0, 2, 0, 1, 1, 2, 0, 1, 2, 2, 0, 1, 3, 2, 0, 1, 4, 2, 0, 3, 4, 1, 5, 0, 1, 0, 2, 0, 1, 1, 2, 0, 1, 2, 2, 0, 1, 3, 2, 0, 1, 4, 2, 0, 3, 4, 1, 5, 0, 1, 0, 2, 0, 1, 1, 2, 0, 1, 2, 2, 0, 1, 3, 2, 0, 1, 4, 2, 0, 3, 4, 1, 5, 0, 1, 0, 2, 0, 1, 1, 2, 0, 1, 2, 2, 0, 1, 3, 2, 0, 1, 4, 2, 0, 7, 4, 1, 5, 0, 1, 0, 2, 0, 1, 1, 2, 0, 1, 2, 2, 0, 1, 3, 2, 0, 2, 4, 2, 5, 1, 0, 3, 4, 1, 5, 0, 1, 0, 2, 0, 1, 1, 2, 0, 1, 2, 2, 0, 1, 3, 2, 0, 1, 4, 2, 0, 3, 4, 1, 5, 0, 1, 0, 2, 0, 1, 1, 2, 0, 1, 2, 2, 0, 1, 3, 2, 0, 1, 4, 2, 0, 2, 4, 1, 5, 0, 1, 0, 2, 0, 1, 1, 2, 0, 1, 2, 2, 0, 1, 3, 2, 0, 1, 4, 2, 0, 2, 4, 1, 5, 0, 1, 0, 2, 0, 1, 1, 2, 0, 1, 2, 2, 0, 1, 3, 2, 0, 1, 4, 2]
set_option maxRecDepth 1000000 in
theorem ckie_277 : ck_in0 cktb_277 ckcn_277 ckpt_277 4000 ckce_277_0 = true := by decide +kernel
theorem ckco_277 : ck_CO ckcn_277 := ck_con (tab := cktb_277) (pats := ckpt_277) (fun _ h => absurd h List.not_mem_nil) ckie_277 (fun _ h => absurd h List.not_mem_nil)
def ckpt_278 : List ck_Pt := []
def cktb_278 : List ck_Co := []
def ckce_278_0 : List Nat := [0, 2, 0, 1, 4, 0, 4, 0, 1, 0, 2, 0, 1, 1, 2, 0, 1, 2, 2, 0, 1, 3, 2, 0, 1, 4, 0, 4, 0, 1, 0, 2, 0, 1, 1, 2, 0, 1, 2, 2, 0, 1, 3, 2, 0, 3, 4, 1, 5, 0, 1, 0, 2, 0, 1, 1, 2, 0, 1, 2, 2, 0, 1, 3, 2, 0, 1, 4, 2, 0, 3, 4, 1, 5, 0, 1, 0, 2, 0, 1, 1, 2, 0, 1, 2, 2, 0, 1, 3, 2, 0, 1, 4, 2, 0, 3, 4, 1, 5, 0, 1, 0, 2, 0, 1, 1, 2, 0, 1, 2, 2, 0, 1, 3, 2, 0, 1, 4, 2, 0, 3, 4, 1, 5, 0, 1, 0, 2, 0, 1, 1, 2, 0, 1, 2, 2, 0, 1, 3, 2, 0, 1, 4, 2, 0, 3, 4, 1, 5, 0, 1, 0, 2, 0, 1, 1, 2, 0, 1, 2, 2, 0, 1, 3, 2, 0, 1, 4, 2, 0, 3, 4, 1, 5, 0, 1, 0, 2, 0, 1, 1, 2, 0, 1, 2, 2, 0, 1, 3, 2, 0, 1, 4, 2, 0, 3, 4, 1, 5, 0, 1, 0, 2, 0, 1, 1, 2, 0, 1, 2, 2, 0, 1, 3, 2, 0, 1, 4, 2, 0, 7, 4, 1, 5, 0, 1, 0, 2, 0, 1, 1, 2, 0, 1, 2, 2, 0, 1, 3, 2, 0, 2, 4, 2, 5, 1, 0, 3, 4, 1, 5, 0, 1, 0, 2, 0, 1, 1, 2, 0, 1, 2, 2, 0, 1, 3, 2, 0, 1, 4, 2, 0, 3, 4, 1, 5, 0, 1, 0, 2, 0, 1, 1, 2, 0, 1, 2, 2, 0, 1, 3, 2, 0, 1, 4, 2, 0, 2, 4, 1, 5, 0, 1, 0, 2, 0, 1, 1, 2, 0, 1, 2, 2, 0, 1, 3, 2, 0, 1, 4, 2, 0, 2, 4, 1, 5, 0, 1, 0, 2, 0, 1, 1, 2, 0, 1, 2, 2, 0, 1, 3, 2, 0, 1, 4, 2]
set_option maxRecDepth 1000000 in
theorem ckie_278 : ck_in0 cktb_278 ckcn_278 ckpt_278 4000 ckce_278_0 = true := by decide +kernel
theorem ckco_278 : ck_CO ckcn_278 := ck_con (tab := cktb_278) (pats := ckpt_278) (fun _ h => absurd h List.not_mem_nil) ckie_278 (fun _ h => absurd h List.not_mem_nil)
def ckpt_279 : List ck_Pt := [(((13, [(0, .negSucc 2147483647, .ofNat 2147483647), (1, .negSucc 2147483647, .ofNat 2147483647), (2, .negSucc 2147483647, .ofNat 2147483647), (3, .negSucc 2147483647, .ofNat 2147483647), (4, .negSucc 2147483647, .ofNat 2147483647), (5, .ofNat 0, .ofNat 1), (6, .ofNat 0, .ofNat 6), (7, .ofNat 0, .ofNat 6), (8, .ofNat 0, .ofNat 7), (9, .ofNat 0, .ofNat 7), (10, .ofNat 0, .ofNat 7), (11, .ofNat 0, .ofNat 1580), (12, .ofNat 0, .ofNat 20)], [([(6, .ofNat 1), (7, .ofNat 1)], .ofNat 1, .ofNat 6), ([(6, .ofNat 1), (7, .ofNat 1), (8, .negSucc 0)], .negSucc 0, .ofNat 6), ([(6, .ofNat 1), (7, .ofNat 1), (9, .negSucc 0)], .negSucc 0, .ofNat 6), ([(6, .ofNat 1), (7, .ofNat 1), (10, .negSucc 0)], .negSucc 0, .ofNat 6)], [(88, (.ofNat 2, []), (.ofNat 0, [(11, .ofNat 1)])), (88, (.ofNat 29, []), (.ofNat 0, [(5, .ofNat 1)])), (88, (.ofNat 39, []), (.ofNat 0, [(6, .ofNat 1)])), (95, (.ofNat 0, [(5, .ofNat 1)]), (.ofNat 0, [(6, .ofNat 1), (7, .ofNat 1)])), (132, (.ofNat 0, []), (.ofNat 0, [(6, .ofNat 1), (7, .ofNat 1), (8, .negSucc 0)])), (132, (.ofNat 1, []), (.ofNat 0, [(6, .ofNat 1), (7, .ofNat 1), (9, .negSucc 0)])), (132, (.ofNat 2, []), (.ofNat 0, [(6, .ofNat 1), (7, .ofNat 1), (10, .negSucc 0)]))], [(12, (.ofNat 0, [(6, .ofNat 1)]), (.ofNat 0, [(7, .negSucc 0)])), (13, (.ofNat 0, []), (.ofNat 40, []))]), 18, [(0, (2, (.ofNat 88, []))), (1, (0, (.ofNat 0, [(0, .ofNat 1)]))), (2, (0, (.ofNat 0, [(1, .ofNat 1)]))), (3, (0, (.ofNat 0, [(2, .ofNat 1)]))), (4, (0, (.ofNat 0, [(3, .ofNat 1)]))), (5, (0, (.ofNat 0, [(4, .ofNat 1)]))), (6, (0, (.ofNat 0, [(12, .ofNat 1)])))], []), (.ofNat 10000000, [(12, .negSucc 0)]))]
def cktb_279 : List ck_Co := []
def ckce_279_0 : List Nat := [0, 6, 0, 2, 2, 0, 13, 0, 1, 0, 2, 0, 1, 1, 2, 0, 1, 2, 2, 0, 1, 3, 2, 0, 1, 4, 2, 0, 1, 5, 2, 0, 1, 6, 2, 0, 1, 7, 2, 0, 1, 8, 2, 0, 1, 9, 2, 0, 1, 10, 2, 0, 1, 11, 2, 0, 0, 0, 1, 4, 0, 12, 0, 1, 0, 2, 0, 1, 1, 2, 0, 1, 2, 2, 0, 1, 3, 2, 0, 1, 4, 2, 0, 1, 5, 2, 0, 1, 6, 2, 0, 1, 7, 2, 0, 1, 8, 2, 0, 1, 9, 2, 0, 1, 10, 2, 0, 1, 11, 2]
def ckce_279_1 : List Nat := [0, 3, 0, 8, 4, 1, 13, 0, 1, 0, 2, 0, 1, 1, 2, 0, 1, 2, 2, 0, 1, 3, 2, 0, 1, 4, 2, 0, 1, 5, 2, 0, 1, 6, 2, 0, 1, 7, 2, 0, 1, 8, 2, 0, 1, 9, 2, 0, 1, 10, 2, 40, 1, 11, 2, 40, 1, 11, 2, 0, 3, 0, 3, 0, 3, 0, 3, 0, 21, 2, 0, 13, 0, 1, 0, 2, 0, 1, 1, 2, 0, 1, 2, 2, 0, 1, 3, 2, 0, 1, 4, 2, 0, 1, 5, 2, 0, 1, 6, 2, 0, 1, 7, 2, 0, 1, 8, 2, 0, 1, 9, 2, 0, 1, 10, 2, 0, 1, 11, 2, 2, 1, 12, 2, 0, 22, 2, 0, 13, 0, 1, 0, 2, 0, 1, 1, 2, 0, 1, 2, 2, 0, 1, 3, 2, 0, 1, 4, 2, 0, 1, 5, 2, 0, 1, 6, 2, 0, 1, 7, 2, 0, 1, 8, 2, 0, 1, 9, 2, 0, 1, 10, 2, 0, 1, 11, 2, 2, 1, 12, 2, 0, 22, 2, 0, 13, 0, 1, 0, 2, 0, 1, 1, 2, 0, 1, 2, 2, 0, 1, 3, 2, 0, 1, 4, 2, 0, 1, 5, 2, 0, 1, 6, 2, 0, 1, 7, 2, 0, 1, 8, 2, 0, 1, 9, 2, 0, 1, 10, 2, 0, 1, 11, 2, 2, 1, 12, 2, 0, 22, 2, 0, 13, 0, 1, 0, 2, 0, 1, 1, 2, 0, 1, 2, 2, 0, 1, 3, 2, 0, 1, 4, 2, 0, 1, 5, 2, 0, 1, 6, 2, 0, 1, 7, 2, 0, 1, 8, 2, 0, 1, 9, 2, 0, 1, 10, 2, 0, 1, 11, 2, 2, 1, 12, 2, 0, 22, 2, 0, 13, 0, 1, 0, 2, 0, 1, 1, 2, 0, 1, 2, 2, 0, 1, 3, 2, 0, 1, 4, 2, 0, 1, 5, 2, 0, 1, 6, 2, 0, 1, 7, 2, 0, 1, 8, 2, 0, 1, 9, 2, 0, 1, 10, 2, 0, 1, 11, 2, 2, 1, 12, 2]
set_option maxRecDepth 1000000 in
theorem ckie_279 : ck_in0 cktb_279 ckcn_279 ckpt_279 4000 ckce_279_0 = true := by decide +kernel
set_option maxRecDepth 1000000 in
theorem ckip_279_0 : ∀ p, ckpt_279[0]? = some p → ck_inP cktb_279 ckcn_279 ckpt_279 4000 p ckce_279_1 = true := by
  intro p hp
  cases hp
  decide +kernel
theorem ckco_279 : ck_CO ckcn_279 := ck_con (tab := cktb_279) (pats := ckpt_279) (fun _ h => absurd h List.not_mem_nil) ckie_279 (List.forall_mem_cons.mpr ⟨⟨4000, ckce_279_1, ckip_279_0 _ rfl⟩, (fun _ h => absurd h List.not_mem_nil)⟩)
def ckpt_280 : List ck_Pt := []
def cktb_280 : List ck_Co := []
def ckce_280_0 : List Nat := [0, 2, 0, 1, 4, 0, 7, 0, 1, 0, 2, 0, 1, 1, 2, 0, 1, 2, 2, 0, 1, 3, 2, 0, 1, 4, 2, 0, 1, 5, 2, 0, 1, 6, 2, 0, 4, 0, 4, 4, 1, 8, 0, 1, 0, 2, 0, 1, 1, 2, 0, 1, 2, 2, 0, 1, 3, 2, 0, 1, 4, 2, 0, 1, 5, 2, 0, 1, 6, 2, 0, 1, 0, 2, 0, 1, 4, 0, 7, 0, 1, 0, 2, 0, 1, 1, 2, 0, 1, 2, 2, 0, 1, 3, 2, 0, 1, 4, 2, 0, 1, 5, 2, 0, 1, 6, 2]
set_option maxRecDepth 1000000 in
theorem ckie_280 : ck_in0 cktb_280 ckcn_280 ckpt_280 4000 ckce_280_0 = true := by decide +kernel
theorem ckco_280 : ck_CO ckcn_280 := ck_con (tab := cktb_280) (pats := ckpt_280) (fun _ h => absurd h List.not_mem_nil) ckie_280 (fun _ h => absurd h List.not_mem_nil)
def ckpt_281 : List ck_Pt := [(((2, [(0, .ofNat 0, .ofNat 1), (1, .ofNat 0, .ofNat 128)], [], [(105, (.ofNat 0, [(0, .ofNat 1)]), (.ofNat 0, [])), (96, (.ofNat 0, [(0, .ofNat 1)]), (.ofNat 0, [])), (95, (.ofNat 0, [(0, .ofNat 1)]), (.ofNat 3, [])), (94, (.ofNat 0, [(0, .ofNat 1)]), (.ofNat 0, [])), (93, (.ofNat 0, [(0, .ofNat 1)]), (.ofNat 0, [])), (92, (.ofNat 0, [(0, .ofNat 1)]), (.ofNat 0, [])), (91, (.ofNat 0, [(0, .ofNat 1)]), (.ofNat 0, [])), (88, (.ofNat 30, []), (.ofNat 0, [(0, .ofNat 1)]))], []), 78, [(0, (2, (.ofNat 88, []))), (1, (0, (.ofNat 0, [(1, .ofNat 1)])))], []), (.ofNat 10000000, [(1, .negSucc 0)]))]
def cktb_281 : List ck_Co := []
def ckce_281_0 : List Nat := [0, 47, 2, 0, 2, 0, 1, 0, 2, 0, 1, 0, 128]
def ckce_281_1 : List Nat := [0, 8, 4, 0, 1, 0, 1, 0, 2, 0, 7, 2, 0, 2, 0, 1, 0, 2, 2, 1, 1, 2]
set_option maxRecDepth 1000000 in
theorem ckie_281 : ck_in0 cktb_281 ckcn_281 ckpt_281 4000 ckce_281_0 = true := by decide +kernel
set_option maxRecDepth 1000000 in
theorem ckip_281_0 : ∀ p, ckpt_281[0]? = some p → ck_inP cktb_281 ckcn_281 ckpt_281 4000 p ckce_281_1 = true := by
  intro p hp
  cases hp
  decide +kernel
theorem ckco_281 : ck_CO ckcn_281 := ck_con (tab := cktb_281) (pats := ckpt_281) (fun _ h => absurd h List.not_mem_nil) ckie_281 (List.forall_mem_cons.mpr ⟨⟨4000, ckce_281_1, ckip_281_0 _ rfl⟩, (fun _ h => absurd h List.not_mem_nil)⟩)
