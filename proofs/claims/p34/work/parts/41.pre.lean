/-! Contracts checked, 4. -/
def ckpt_282 : List ck_Pt := [(((2, [(0, .ofNat 0, .ofNat 1600), (1, .ofNat 0, .ofNat 1600)], [], [(88, (.ofNat 6, []), (.ofNat 0, [(1, .ofNat 1)])), (88, (.ofNat 7, []), (.ofNat 0, [(0, .ofNat 1)]))], []), 8, [(0, (2, (.ofNat 88, [])))], []), (.ofNat 40000000, [(1, .negSucc 0)])), (((5, [(0, .ofNat 0, .ofNat 1600), (1, .ofNat 0, .ofNat 1599), (2, .ofNat 1, .ofNat 1600), (3, .negSucc 127, .ofNat 127), (4, .ofNat 0, .ofNat 1599)], [([(1, .ofNat 1), (2, .negSucc 0)], .negSucc 1599, .negSucc 0)], [(88, (.ofNat 7, []), (.ofNat 1, [(1, .ofNat 1)])), (90, (.ofNat 0, [(1, .ofNat 1)]), (.ofNat 0, [(3, .ofNat 1)])), (88, (.ofNat 3, []), (.ofNat 0, [(2, .ofNat 1)])), (88, (.ofNat 6, []), (.ofNat 0, [(4, .ofNat 1)]))], []), 119, [(0, (2, (.ofNat 88, [])))], []), (.ofNat 29999999, [(1, .negSucc 0)])), (((6, [(0, .ofNat 0, .ofNat 1600), (1, .ofNat 0, .ofNat 1600), (2, .ofNat 1, .ofNat 1600), (3, .ofNat 1, .ofNat 1600), (4, .negSucc 9223372036854775807, .ofNat 9223372036854775807), (5, .ofNat 0, .ofNat 1599)], [], [(88, (.ofNat 10, []), (.ofNat 0, [(4, .ofNat 1)])), (88, (.ofNat 7, []), (.ofNat 0, [(3, .ofNat 1)])), (88, (.ofNat 3, []), (.ofNat 0, [(2, .ofNat 1)])), (88, (.ofNat 6, []), (.ofNat 0, [(5, .ofNat 1)]))], []), 156, [(0, (2, (.ofNat 88, []))), (2, (0, (.ofNat 0, [(1, .ofNat 1)])))], []), (.ofNat 20000000, [(1, .negSucc 0)])), (((5, [(0, .ofNat 0, .ofNat 1600), (1, .ofNat 0, .ofNat 1600), (2, .ofNat 1, .ofNat 1600), (3, .negSucc 2147483647, .ofNat 2147483647), (4, .ofNat 0, .ofNat 1599)], [], [(88, (.ofNat 7, []), (.ofNat 0, [(1, .ofNat 1)])), (88, (.ofNat 9, []), (.ofNat 0, [(3, .ofNat 1)])), (88, (.ofNat 3, []), (.ofNat 0, [(2, .ofNat 1)])), (88, (.ofNat 6, []), (.ofNat 0, [(4, .ofNat 1)]))], []), 259, [(0, (2, (.ofNat 88, [])))], []), (.ofNat 10000000, [(1, .negSucc 0)]))]
def cktb_282 : List ck_Co := []
def ckce_282_0 : List Nat := [0, 4, 2, 0, 2, 0, 1, 0, 2, 0, 1, 0, 2]
def ckce_282_1 : List Nat := [0, 5, 0, 34, 4, 0, 2, 0, 1, 0, 2, 0, 1, 2, 2, 0, 18, 0, 7, 2, 0, 2, 0, 1, 0, 2, 2, 1, 1, 2, 0, 18, 0, 33, 0, 8, 0, 12, 4, 0, 2, 0, 1, 0, 2, 2, 1, 1, 2, 0, 3, 0, 7, 0, 3, 4, 0, 2, 0, 1, 0, 2, 2, 1, 1, 2, 0, 3, 0, 2, 4, 0, 2, 0, 1, 0, 2, 2, 1, 1, 2, 0, 3, 4, 0, 2, 0, 1, 0, 2, 2, 1, 1, 2, 0, 11, 2, 3, 5, 0, 1, 0, 2, 0, 1, 1, 2, 0, 1, 2, 2, 0, 0, 0, 1, 1, 2, 0, 3, 0, 23, 4, 0, 2, 0, 1, 0, 2, 2, 1, 1, 2, 0, 4, 2, 1, 5, 0, 1, 0, 2, 0, 1, 1, 2, 0, 1, 2, 2, 0, 1, 3, 2, 0, 1, 1, 2, 0, 7, 2, 0, 2, 0, 1, 0, 2, 2, 1, 1, 2]
def ckce_282_2 : List Nat := [0, 8, 0, 15, 2, 2, 6, 0, 1, 0, 2, 0, 1, 4, 2, 0, 1, 2, 2, 2, 1, 1, 2, 0, 0, 0, 1, 4, 2, 0, 12, 0, 9, 2, 2, 6, 0, 1, 0, 2, 0, 1, 4, 2, 0, 1, 2, 2, 2, 1, 1, 2, 0, 0, 0, 1, 4, 2, 0, 3, 0, 9, 2, 2, 6, 0, 1, 0, 2, 0, 1, 4, 2, 0, 1, 2, 2, 2, 1, 1, 2, 0, 0, 0, 1, 4, 2, 0, 11, 2, 1, 5, 0, 1, 0, 2, 2, 1, 1, 2, 0, 1, 2, 2, 0, 1, 5, 2, 0, 1, 4, 2]
def ckce_282_3 : List Nat := [0, 4, 0, 8, 0, 6, 0, 4, 0, 8, 0, 15, 4, 0, 2, 0, 1, 0, 2, 0, 1, 3, 2, 0, 9, 4, 0, 2, 0, 1, 0, 2, 0, 1, 3, 2, 0, 15, 4, 0, 2, 0, 1, 0, 2, 0, 1, 3, 2, 0, 9, 4, 0, 2, 0, 1, 0, 2, 0, 1, 3, 2, 0, 4, 0, 19, 4, 0, 2, 0, 1, 0, 2, 0, 1, 3, 2, 0, 9, 4, 0, 2, 0, 1, 0, 2, 0, 1, 3, 2, 0, 19, 4, 0, 2, 0, 1, 0, 2, 0, 1, 3, 2, 0, 9, 4, 0, 2, 0, 1, 0, 2, 0, 1, 3, 2, 0, 16, 0, 4, 0, 7, 4, 0, 2, 0, 1, 0, 2, 0, 1, 3, 2, 0, 9, 4, 0, 2, 0, 1, 0, 2, 0, 1, 3, 2, 0, 7, 4, 0, 2, 0, 1, 0, 2, 0, 1, 3, 2, 0, 9, 4, 0, 2, 0, 1, 0, 2, 0, 1, 3, 2, 0, 11, 4, 0, 2, 0, 1, 0, 2, 0, 1, 3, 2, 0, 4, 4, 0, 2, 0, 1, 0, 2, 0, 1, 3, 2, 0, 6, 0, 12, 4, 0, 2, 0, 1, 0, 2, 0, 1, 3, 2, 0, 12, 0, 7, 2, 2, 6, 0, 1, 0, 2, 2, 1, 1, 2, 0, 1, 2, 2, 0, 1, 3, 2, 0, 1, 7, 2, 0, 1, 5, 2, 0, 13, 2, 2, 6, 0, 1, 0, 2, 2, 1, 1, 2, 0, 1, 2, 2, 0, 1, 3, 2, 0, 1, 9, 2, 0, 1, 5, 2]
def ckce_282_4 : List Nat := [0, 8, 0, 17, 0, 4, 4, 0, 2, 0, 1, 0, 2, 0, 1, 1, 2, 0, 20, 4, 0, 2, 0, 1, 0, 2, 0, 1, 1, 2, 0, 12, 0, 11, 0, 4, 4, 0, 2, 0, 1, 0, 2, 0, 1, 1, 2, 0, 20, 0, 6, 4, 0, 2, 0, 1, 0, 2, 0, 1, 1, 2, 0, 3, 0, 6, 4, 0, 2, 0, 1, 0, 2, 0, 1, 1, 2, 0, 8, 4, 0, 2, 0, 1, 0, 2, 0, 1, 1, 2, 0, 3, 0, 11, 0, 4, 4, 0, 2, 0, 1, 0, 2, 0, 1, 1, 2, 0, 20, 0, 6, 4, 0, 2, 0, 1, 0, 2, 0, 1, 1, 2, 0, 3, 0, 6, 4, 0, 2, 0, 1, 0, 2, 0, 1, 1, 2, 0, 8, 4, 0, 2, 0, 1, 0, 2, 0, 1, 1, 2, 0, 11, 0, 7, 2, 3, 5, 0, 1, 0, 2, 2, 1, 1, 2, 0, 1, 2, 2, 0, 1, 3, 2, 0, 1, 4, 2, 0, 32, 2, 3, 5, 0, 1, 0, 2, 2, 1, 1, 2, 0, 1, 2, 2, 0, 1, 10, 2, 0, 1, 4, 2]
set_option maxRecDepth 1000000 in
theorem ckie_282 : ck_in0 cktb_282 ckcn_282 ckpt_282 4000 ckce_282_0 = true := by decide +kernel
set_option maxRecDepth 1000000 in
theorem ckip_282_0 : ∀ p, ckpt_282[0]? = some p → ck_inP cktb_282 ckcn_282 ckpt_282 4000 p ckce_282_1 = true := by
  intro p hp
  cases hp
  decide +kernel
set_option maxRecDepth 1000000 in
theorem ckip_282_1 : ∀ p, ckpt_282[1]? = some p → ck_inP cktb_282 ckcn_282 ckpt_282 4000 p ckce_282_2 = true := by
  intro p hp
  cases hp
  decide +kernel
set_option maxRecDepth 1000000 in
theorem ckip_282_2 : ∀ p, ckpt_282[2]? = some p → ck_inP cktb_282 ckcn_282 ckpt_282 4000 p ckce_282_3 = true := by
  intro p hp
  cases hp
  decide +kernel
set_option maxRecDepth 1000000 in
theorem ckip_282_3 : ∀ p, ckpt_282[3]? = some p → ck_inP cktb_282 ckcn_282 ckpt_282 4000 p ckce_282_4 = true := by
  intro p hp
  cases hp
  decide +kernel
theorem ckco_282 : ck_CO ckcn_282 := ck_con (tab := cktb_282) (pats := ckpt_282) (fun _ h => absurd h List.not_mem_nil) ckie_282 (List.forall_mem_cons.mpr ⟨⟨4000, ckce_282_1, ckip_282_0 _ rfl⟩, (List.forall_mem_cons.mpr ⟨⟨4000, ckce_282_2, ckip_282_1 _ rfl⟩, (List.forall_mem_cons.mpr ⟨⟨4000, ckce_282_3, ckip_282_2 _ rfl⟩, (List.forall_mem_cons.mpr ⟨⟨4000, ckce_282_4, ckip_282_3 _ rfl⟩, (fun _ h => absurd h List.not_mem_nil)⟩)⟩)⟩)⟩)
def ckpt_283 : List ck_Pt := [(((2, [(0, .negSucc 9223372036854775807, .ofNat 9223372036854775807), (1, .ofNat 0, .ofNat 8)], [], [], []), 2, [(0, (2, (.ofNat 88, []))), (1, (1, (.ofNat 0, [(0, .ofNat 1)]))), (3, (0, (.ofNat 0, [(1, .ofNat 1)])))], []), (.ofNat 10000000, [(1, .negSucc 0)]))]
def cktb_283 : List ck_Co := []
def ckce_283_0 : List Nat := [0, 2, 2, 0, 2, 0, 1, 0, 2, 0, 0]
def ckce_283_1 : List Nat := [0, 7, 0, 1, 4, 0, 1, 0, 1, 0, 2, 0, 11, 0, 3, 2, 0, 2, 0, 1, 0, 2, 2, 1, 1, 2, 0, 2, 4, 1, 2, 0, 1, 0, 2, 0, 1, 1, 2, 0, 3, 2, 0, 2, 0, 1, 0, 2, 2, 1, 1, 2]
set_option maxRecDepth 1000000 in
theorem ckie_283 : ck_in0 cktb_283 ckcn_283 ckpt_283 4000 ckce_283_0 = true := by decide +kernel
set_option maxRecDepth 1000000 in
theorem ckip_283_0 : ∀ p, ckpt_283[0]? = some p → ck_inP cktb_283 ckcn_283 ckpt_283 4000 p ckce_283_1 = true := by
  intro p hp
  cases hp
  decide +kernel
theorem ckco_283 : ck_CO ckcn_283 := ck_con (tab := cktb_283) (pats := ckpt_283) (fun _ h => absurd h List.not_mem_nil) ckie_283 (List.forall_mem_cons.mpr ⟨⟨4000, ckce_283_1, ckip_283_0 _ rfl⟩, (fun _ h => absurd h List.not_mem_nil)⟩)
def ckpt_284 : List ck_Pt := [(((2, [(0, .negSucc 9223372036854775807, .ofNat 9223372036854775807), (1, .ofNat 0, .ofNat 8)], [], [], []), 2, [(0, (2, (.ofNat 88, []))), (1, (1, (.ofNat 0, [(0, .ofNat 1)]))), (3, (0, (.ofNat 0, [(1, .ofNat 1)])))], []), (.ofNat 10000000, [(1, .negSucc 0)]))]
def cktb_284 : List ck_Co := []
def ckce_284_0 : List Nat := [0, 2, 2, 0, 2, 0, 1, 0, 2, 0, 0]
def ckce_284_1 : List Nat := [0, 7, 0, 1, 4, 0, 1, 0, 1, 0, 2, 0, 11, 0, 3, 2, 0, 2, 0, 1, 0, 2, 2, 1, 1, 2, 0, 2, 4, 1, 2, 0, 1, 0, 2, 0, 1, 1, 2, 0, 3, 2, 0, 2, 0, 1, 0, 2, 2, 1, 1, 2]
set_option maxRecDepth 1000000 in
theorem ckie_284 : ck_in0 cktb_284 ckcn_284 ckpt_284 4000 ckce_284_0 = true := by decide +kernel
set_option maxRecDepth 1000000 in
theorem ckip_284_0 : ∀ p, ckpt_284[0]? = some p → ck_inP cktb_284 ckcn_284 ckpt_284 4000 p ckce_284_1 = true := by
  intro p hp
  cases hp
  decide +kernel
theorem ckco_284 : ck_CO ckcn_284 := ck_con (tab := cktb_284) (pats := ckpt_284) (fun _ h => absurd h List.not_mem_nil) ckie_284 (List.forall_mem_cons.mpr ⟨⟨4000, ckce_284_1, ckip_284_0 _ rfl⟩, (fun _ h => absurd h List.not_mem_nil)⟩)
def ckpt_285 : List ck_Pt := [(((2, [(0, .ofNat 0, .ofNat 1), (1, .ofNat 0, .ofNat 48)], [], [(88, (.ofNat 30, []), (.ofNat 0, [(0, .ofNat 1)]))], []), 8, [(0, (2, (.ofNat 88, []))), (1, (0, (.ofNat 0, [(1, .ofNat 1)])))], []), (.ofNat 10000000001000000000, [(1, .negSucc 999999999999)])), (((4, [(0, .ofNat 0, .ofNat 1), (1, .ofNat 0, .ofNat 47), (2, .ofNat 0, .ofNat 24), (3, .ofNat 0, .ofNat 192)], [([(0, .ofNat 24), (1, .negSucc 0), (2, .ofNat 1)], .ofNat 1, .ofNat 48)], [(94, (.ofNat 0, [(0, .ofNat 1)]), (.ofNat 0, [(2, .ofNat 1)])), (88, (.ofNat 30, []), (.ofNat 0, [(0, .ofNat 1)]))], []), 33, [(0, (2, (.ofNat 88, []))), (1, (0, (.ofNat 0, [(1, .ofNat 1)]))), (2, (0, (.ofNat 0, [(3, .ofNat 1)])))], []), (.ofNat 10000000000010000000, [(1, .negSucc 999999999999), (3, .negSucc 0)]))]
def cktb_285 : List ck_Co := [ckcn_283, ckcn_284]
def ckce_285_0 : List Nat := [0, 5, 2, 0, 2, 0, 1, 0, 2, 0, 1, 0, 48]
def ckce_285_1 : List Nat := [0, 12, 4, 0, 0, 0, 4, 2, 1, 4, 0, 1, 0, 2, 0, 1, 1, 2, 0, 1, 2, 2, 0, 1, 1, 8]
def ckce_285_2 : List Nat := [0, 10, 0, 2, 2, 0, 2, 0, 1, 0, 2, 2, 1, 1, 2, 0, 5, 3, 0, 1, 0, 1, 5, 2, 0, 6, 3, 1, 1, 0, 1, 5, 2, 0, 15, 0, 22, 2, 1, 4, 0, 1, 0, 2, 0, 1, 1, 2, 0, 1, 2, 2, 2, 1, 3, 2, 0, 16, 2, 1, 4, 0, 1, 0, 2, 0, 1, 1, 2, 0, 1, 2, 2, 2, 1, 3, 2, 0, 15, 0, 11, 2, 1, 4, 0, 1, 0, 2, 0, 1, 1, 2, 0, 1, 2, 2, 2, 1, 3, 2, 0, 6, 0, 11, 2, 1, 4, 0, 1, 0, 2, 0, 1, 1, 2, 0, 1, 2, 2, 2, 1, 3, 2, 0, 10, 0, 18, 2, 1, 4, 0, 1, 0, 2, 0, 1, 1, 2, 0, 1, 2, 2, 2, 1, 3, 2, 0, 12, 2, 1, 4, 0, 1, 0, 2, 0, 1, 1, 2, 0, 1, 2, 2, 2, 1, 3, 2, 0, 6, 3, 1, 1, 0, 1, 5, 2, 0, 15, 2, 1, 4, 0, 1, 0, 2, 0, 1, 1, 2, 0, 1, 2, 2, 2, 1, 3, 2, 0, 15, 2, 1, 4, 0, 1, 0, 2, 0, 1, 1, 2, 0, 1, 2, 2, 2, 1, 3, 2]
set_option maxRecDepth 1000000 in
theorem ckie_285 : ck_in0 cktb_285 ckcn_285 ckpt_285 4000 ckce_285_0 = true := by decide +kernel
set_option maxRecDepth 1000000 in
theorem ckip_285_0 : ∀ p, ckpt_285[0]? = some p → ck_inP cktb_285 ckcn_285 ckpt_285 4000 p ckce_285_1 = true := by
  intro p hp
  cases hp
  decide +kernel
set_option maxRecDepth 1000000 in
theorem ckip_285_1 : ∀ p, ckpt_285[1]? = some p → ck_inP cktb_285 ckcn_285 ckpt_285 4000 p ckce_285_2 = true := by
  intro p hp
  cases hp
  decide +kernel
theorem ckco_285 : ck_CO ckcn_285 := ck_con (tab := cktb_285) (pats := ckpt_285) (List.forall_mem_cons.mpr ⟨ckco_283, (List.forall_mem_cons.mpr ⟨ckco_284, (fun _ h => absurd h List.not_mem_nil)⟩)⟩) ckie_285 (List.forall_mem_cons.mpr ⟨⟨4000, ckce_285_1, ckip_285_0 _ rfl⟩, (List.forall_mem_cons.mpr ⟨⟨4000, ckce_285_2, ckip_285_1 _ rfl⟩, (fun _ h => absurd h List.not_mem_nil)⟩)⟩)
def ckpt_286 : List ck_Pt := [(((1, [(0, .ofNat 0, .ofNat 6)], [], [(88, (.ofNat 43, []), (.ofNat 0, [])), (88, (.ofNat 42, []), (.ofNat 0, [])), (88, (.ofNat 39, []), (.ofNat 0, []))], []), 17, [(0, (2, (.ofNat 88, []))), (1, (0, (.ofNat 0, [(0, .ofNat 1)])))], []), (.ofNat 10000000, [(0, .negSucc 0)]))]
def cktb_286 : List ck_Co := []
def ckce_286_0 : List Nat := [0, 11, 2, 0, 1, 0, 0]
def ckce_286_1 : List Nat := [0, 3, 1, 3, 12, 0, 0, 4, 0, 0, 0, 12, 0, 19, 2, 0, 1, 2, 1, 0, 2, 0, 8, 2, 0, 1, 2, 1, 0, 2]
set_option maxRecDepth 1000000 in
theorem ckie_286 : ck_in0 cktb_286 ckcn_286 ckpt_286 4000 ckce_286_0 = true := by decide +kernel
set_option maxRecDepth 1000000 in
theorem ckip_286_0 : ∀ p, ckpt_286[0]? = some p → ck_inP cktb_286 ckcn_286 ckpt_286 4000 p ckce_286_1 = true := by
  intro p hp
  cases hp
  decide +kernel
theorem ckco_286 : ck_CO ckcn_286 := ck_con (tab := cktb_286) (pats := ckpt_286) (fun _ h => absurd h List.not_mem_nil) ckie_286 (List.forall_mem_cons.mpr ⟨⟨4000, ckce_286_1, ckip_286_0 _ rfl⟩, (fun _ h => absurd h List.not_mem_nil)⟩)
def ckpt_287 : List ck_Pt := []
def cktb_287 : List ck_Co := [ckcn_282]
def ckce_287_0 : List Nat := [0, 4, 0, 7, 0, 7, 0, 16, 4, 0, 6, 0, 1, 0, 2, 0, 1, 1, 2, 0, 1, 2, 2, 0, 1, 3, 2, 4, 0, 0, 1, 0, 2, 0, 10, 4, 0, 6, 0, 1, 0, 2, 0, 1, 1, 2, 0, 1, 2, 2, 0, 1, 3, 2, 0, 1, 6, 2, 0, 1, 0, 2, 0, 8, 0, 16, 4, 0, 6, 0, 1, 0, 2, 0, 1, 1, 2, 0, 1, 2, 2, 0, 1, 3, 2, 2, 0, 0, 1, 0, 2, 0, 10, 4, 0, 6, 0, 1, 0, 2, 0, 1, 1, 2, 0, 1, 2, 2, 0, 1, 3, 2, 0, 1, 6, 2, 0, 1, 0, 2, 0, 7, 0, 5, 0, 3, 4, 0, 6, 0, 1, 0, 2, 0, 1, 1, 2, 0, 1, 2, 2, 0, 1, 3, 2, 0, 1, 5, 2, 0, 1, 0, 2, 0, 92, 3, 0, 1, 0, 1, 0, 2, 0, 14, 4, 1, 5, 0, 1, 0, 2, 0, 1, 1, 2, 0, 1, 2, 2, 0, 1, 3, 2, 0, 1, 8, 2, 0, 41, 3, 0, 1, 0, 1, 8, 2, 0, 14, 4, 1, 5, 0, 1, 0, 2, 0, 1, 1, 2, 0, 1, 2, 2, 0, 1, 3, 2, 0, 1, 12, 2, 0, 41, 3, 0, 1, 0, 1, 12, 2, 0, 14, 4, 1, 5, 0, 1, 0, 2, 0, 1, 1, 2, 0, 1, 2, 2, 0, 1, 3, 2, 0, 1, 16, 2, 0, 41, 3, 0, 1, 0, 1, 16, 2, 0, 14, 4, 1, 5, 0, 1, 0, 2, 0, 1, 1, 2, 0, 1, 2, 2, 0, 1, 3, 2, 0, 1, 20, 2, 0, 28, 4, 0, 6, 0, 1, 0, 2, 0, 1, 1, 2, 0, 1, 2, 2, 0, 1, 3, 2, 4, 0, 0, 1, 20, 2, 0, 14, 0, 16, 4, 0, 6, 0, 1, 0, 2, 0, 1, 1, 2, 0, 1, 2, 2, 0, 1, 3, 2, 4, 0, 0, 1, 0, 2, 0, 10, 4, 0, 6, 0, 1, 0, 2, 0, 1, 1, 2, 0, 1, 2, 2, 0, 1, 3, 2, 0, 1, 6, 2, 0, 1, 0, 2]
set_option maxRecDepth 1000000 in
theorem ckie_287 : ck_in0 cktb_287 ckcn_287 ckpt_287 4000 ckce_287_0 = true := by decide +kernel
theorem ckco_287 : ck_CO ckcn_287 := ck_con (tab := cktb_287) (pats := ckpt_287) (List.forall_mem_cons.mpr ⟨ckco_282, (fun _ h => absurd h List.not_mem_nil)⟩) ckie_287 (fun _ h => absurd h List.not_mem_nil)
def ckpt_288 : List ck_Pt := [(((9, [(0, .ofNat 0, .ofNat 1600), (1, .ofNat 0, .ofNat 1), (2, .ofNat 0, .ofNat 24), (3, .ofNat 0, .ofNat 7), (4, .ofNat 0, .ofNat 5), (5, .ofNat 0, .ofNat 24), (6, .negSucc 9223372036854775807, .ofNat 9223372036854775807), (7, .ofNat 0, .ofNat 1600), (8, .ofNat 0, .ofNat 1)], [], [(88, (.ofNat 8, []), (.ofNat 0, [(4, .ofNat 1)])), (107, (.ofNat 0, [(1, .ofNat 8), (3, .ofNat 1)]), (.ofNat 0, [(6, .ofNat 1)])), (88, (.ofNat 7, []), (.ofNat 0, [(7, .ofNat 1)])), (88, (.ofNat 30, []), (.ofNat 0, [(1, .ofNat 1)])), (93, (.ofNat 0, [(1, .ofNat 1)]), (.ofNat 0, [(3, .ofNat 1)])), (88, (.ofNat 4, []), (.ofNat 0, [])), (94, (.ofNat 0, [(1, .ofNat 1)]), (.ofNat 0, [(5, .ofNat 1)]))], []), 38, [(0, (2, (.ofNat 88, []))), (1, (0, (.ofNat 0, [(8, .ofNat 1)])))], []), (.ofNat 1000, [(5, .negSucc 0)])), (((9, [(0, .ofNat 0, .ofNat 1600), (1, .ofNat 0, .ofNat 1), (2, .ofNat 0, .ofNat 24), (3, .ofNat 0, .ofNat 7), (4, .ofNat 0, .ofNat 5), (5, .ofNat 1, .ofNat 7), (6, .negSucc 9223372036854775807, .ofNat 9223372036854775807), (7, .ofNat 0, .ofNat 1600), (8, .ofNat 0, .ofNat 1)], [], [(88, (.ofNat 8, []), (.ofNat 0, [(4, .ofNat 1)])), (107, (.ofNat 0, [(1, .ofNat 8), (3, .ofNat 1)]), (.ofNat 0, [(6, .ofNat 1)])), (88, (.ofNat 7, []), (.ofNat 0, [(7, .ofNat 1)])), (88, (.ofNat 30, []), (.ofNat 0, [(1, .ofNat 1)])), (93, (.ofNat 0, [(1, .ofNat 1)]), (.ofNat 0, [(3, .ofNat 1)])), (88, (.ofNat 4, []), (.ofNat 0, [(5, .ofNat 1)]))], []), 38, [(0, (2, (.ofNat 88, []))), (1, (0, (.ofNat 0, [(8, .ofNat 1)])))], []), (.ofNat 0, []))]
def cktb_288 : List ck_Co := [ckcn_283, ckcn_284, ckcn_282, ckcn_287]
def ckce_288_0 : List Nat := [0, 19, 0, 14, 0, 14, 2, 1, 9, 0, 1, 0, 2, 0, 1, 1, 2, 0, 1, 2, 2, 0, 1, 3, 2, 0, 1, 5, 2, 0, 1, 4, 2, 0, 0, 0, 1, 0, 2, 2, 0, 0, 8, 0, 18, 2, 1, 9, 0, 1, 0, 2, 0, 1, 1, 2, 0, 1, 2, 2, 0, 1, 3, 2, 0, 1, 5, 2, 0, 1, 4, 2, 0, 0, 0, 1, 0, 2, 2, 0, 0, 10, 0, 14, 2, 1, 9, 0, 1, 0, 2, 0, 1, 1, 2, 0, 1, 2, 2, 0, 1, 3, 2, 0, 1, 5, 2, 0, 1, 4, 2, 0, 0, 0, 1, 0, 2, 2, 0, 0, 15, 2, 1, 9, 0, 1, 0, 2, 0, 1, 1, 2, 0, 1, 2, 2, 0, 1, 3, 2, 0, 1, 5, 2, 0, 1, 4, 2, 0, 0, 0, 1, 0, 2, 2, 0, 0, 8, 0, 3, 3, 0, 1, 0, 1, 6, 2, 0, 4, 3, 1, 1, 0, 1, 6, 2, 0, 14, 3, 2, 1, 0, 1, 0, 2, 0, 11, 0, 21, 0, 18, 2, 1, 9, 0, 1, 0, 2, 0, 1, 1, 2, 0, 1, 2, 2, 0, 1, 3, 2, 0, 1, 8, 2, 4, 0, 0, 1, 6, 2, 0, 1, 7, 2, 2, 0, 0, 19, 2, 1, 9, 0, 1, 0, 2, 0, 1, 1, 2, 0, 1, 2, 2, 0, 1, 3, 2, 0, 1, 8, 2, 2, 0, 0, 1, 6, 2, 0, 1, 7, 2, 2, 0, 0, 8, 0, 43, 2, 1, 9, 0, 1, 0, 2, 0, 1, 1, 2, 0, 1, 2, 2, 0, 1, 3, 2, 0, 1, 8, 2, 4, 0, 0, 1, 6, 2, 0, 1, 7, 2, 2, 0, 0, 10, 0, 39, 2, 1, 9, 0, 1, 0, 2, 0, 1, 1, 2, 0, 1, 2, 2, 0, 1, 3, 2, 0, 1, 8, 2, 4, 0, 0, 1, 6, 2, 0, 1, 7, 2, 2, 0, 0, 16, 3, 2, 1, 0, 1, 7, 2, 0, 4, 1, 1, 88, 16, 0, 2, 0, 9, 0, 1, 0, 2, 0, 1, 1, 2, 0, 1, 2, 2, 0, 1, 3, 2, 0, 1, 14, 2, 0, 1, 2, 2, 0, 1, 6, 2, 0, 1, 13, 2, 2, 0, 0, 52, 2, 1, 9, 0, 1, 0, 2, 0, 1, 1, 2, 0, 1, 2, 2, 0, 1, 3, 2, 0, 1, 5, 2, 6, 0, 0, 1, 6, 2, 0, 1, 0, 2, 2, 0, 0, 52, 2, 1, 9, 0, 1, 0, 2, 0, 1, 1, 2, 0, 1, 2, 2, 0, 1, 3, 2, 0, 1, 5, 2, 6, 0, 0, 1, 6, 2, 0, 1, 0, 2, 2, 0, 0, 7, 0, 38, 0, 14, 2, 1, 9, 0, 1, 0, 2, 0, 1, 1, 2, 0, 1, 2, 2, 0, 1, 3, 2, 0, 1, 5, 2, 4, 0, 0, 1, 7, 2, 0, 1, 0, 2, 2, 0, 0, 8, 0, 18, 2, 1, 9, 0, 1, 0, 2, 0, 1, 1, 2, 0, 1, 2, 2, 0, 1, 3, 2, 0, 1, 5, 2, 4, 0, 0, 1, 7, 2, 0, 1, 0, 2, 2, 0, 0, 10, 0, 14, 2, 1, 9, 0, 1, 0, 2, 0, 1, 1, 2, 0, 1, 2, 2, 0, 1, 3, 2, 0, 1, 5, 2, 4, 0, 0, 1, 7, 2, 0, 1, 0, 2, 2, 0, 0, 15, 2, 1, 9, 0, 1, 0, 2, 0, 1, 1, 2, 0, 1, 2, 2, 0, 1, 3, 2, 0, 1, 5, 2, 4, 0, 0, 1, 7, 2, 0, 1, 0, 2, 2, 0, 0, 53, 2, 1, 9, 0, 1, 0, 2, 0, 1, 1, 2, 0, 1, 2, 2, 0, 1, 3, 2, 0, 1, 5, 2, 2, 0, 0, 1, 7, 2, 0, 1, 0, 2, 2, 0]
def ckce_288_1 : List Nat := [0, 11, 0, 9, 4, 0, 6, 0, 1, 0, 2, 0, 1, 1, 2, 0, 1, 2, 2, 0, 1, 3, 2, 0, 0, 0, 1, 7, 2, 0, 1, 3, 3, 4, 0, 1, 7, 2, 0, 1, 1, 2, 0, 1, 5, 2, 0, 1, 3, 2, 0, 12, 1, 1, 88, 16, 0, 2, 1, 9, 0, 1, 0, 2, 0, 1, 1, 2, 0, 1, 2, 2, 0, 1, 3, 2, 0, 1, 11, 2, 0, 1, 9, 2, 0, 1, 6, 2, 0, 1, 10, 2, 0, 0, 0, 16, 0, 7, 2, 0, 9, 0, 1, 0, 2, 0, 1, 1, 2, 0, 1, 2, 2, 0, 1, 3, 2, 0, 1, 10, 2, 2, 1, 5, 2, 0, 1, 6, 2, 0, 1, 9, 2, 0, 0, 0, 4, 0, 8, 2, 0, 9, 0, 1, 0, 2, 0, 1, 1, 2, 0, 1, 2, 2, 0, 1, 3, 2, 0, 1, 10, 2, 2, 1, 5, 2, 0, 1, 6, 2, 0, 1, 9, 2, 0, 0, 0, 11, 3, 2, 1, 0, 1, 9, 2, 0, 1, 1, 1, 88, 16, 0, 2, 0, 9, 0, 1, 0, 2, 0, 1, 1, 2, 0, 1, 2, 2, 0, 1, 3, 2, 0, 1, 13, 2, 2, 1, 5, 2, 0, 1, 6, 2, 0, 1, 12, 2, 2, 0, 0, 8, 2, 0, 9, 0, 1, 0, 2, 0, 1, 1, 2, 0, 1, 2, 2, 0, 1, 3, 2, 0, 1, 10, 2, 2, 1, 5, 2, 0, 1, 6, 2, 0, 1, 9, 2, 0, 0]
def ckce_288_2 : List Nat := [0, 17, 4, 0, 6, 0, 1, 0, 2, 0, 1, 1, 2, 0, 1, 2, 2, 0, 1, 3, 2, 0, 1, 5, 2, 0, 1, 7, 2]
set_option maxRecDepth 1000000 in
theorem ckie_288 : ck_in0 cktb_288 ckcn_288 ckpt_288 4000 ckce_288_0 = true := by decide +kernel
set_option maxRecDepth 1000000 in
theorem ckip_288_0 : ∀ p, ckpt_288[0]? = some p → ck_inP cktb_288 ckcn_288 ckpt_288 4000 p ckce_288_1 = true := by
  intro p hp
  cases hp
  decide +kernel
set_option maxRecDepth 1000000 in
theorem ckip_288_1 : ∀ p, ckpt_288[1]? = some p → ck_inP cktb_288 ckcn_288 ckpt_288 4000 p ckce_288_2 = true := by
  intro p hp
  cases hp
  decide +kernel
theorem ckco_288 : ck_CO ckcn_288 := ck_con (tab := cktb_288) (pats := ckpt_288) (List.forall_mem_cons.mpr ⟨ckco_283, (List.forall_mem_cons.mpr ⟨ckco_284, (List.forall_mem_cons.mpr ⟨ckco_282, (List.forall_mem_cons.mpr ⟨ckco_287, (fun _ h => absurd h List.not_mem_nil)⟩)⟩)⟩)⟩) ckie_288 (List.forall_mem_cons.mpr ⟨⟨4000, ckce_288_1, ckip_288_0 _ rfl⟩, (List.forall_mem_cons.mpr ⟨⟨4000, ckce_288_2, ckip_288_1 _ rfl⟩, (fun _ h => absurd h List.not_mem_nil)⟩)⟩)
def ckpt_289 : List ck_Pt := []
def cktb_289 : List ck_Co := [ckcn_282]
def ckce_289_0 : List Nat := [0, 16, 0, 14, 4, 0, 4, 0, 1, 0, 2, 0, 1, 1, 2, 0, 1, 2, 2, 0, 1, 0, 2, 0, 8, 0, 13, 0, 45, 4, 0, 4, 0, 1, 0, 2, 0, 1, 1, 2, 8, 0, 0, 1, 0, 2, 0, 4, 0, 13, 3, 0, 1, 0, 1, 0, 2, 0, 49, 0, 37, 0, 45, 4, 0, 4, 0, 1, 0, 2, 0, 1, 1, 2, 8, 0, 0, 1, 5, 2, 0, 4, 0, 13, 3, 0, 1, 0, 1, 5, 2, 0, 49, 0, 37, 0, 45, 4, 0, 4, 0, 1, 0, 2, 0, 1, 1, 2, 8, 0, 0, 1, 8, 2, 0, 4, 0, 13, 3, 0, 1, 0, 1, 8, 2, 0, 49, 0, 37, 0, 45, 4, 0, 4, 0, 1, 0, 2, 0, 1, 1, 2, 8, 0, 0, 1, 11, 2, 0, 4, 0, 13, 3, 0, 1, 0, 1, 11, 2, 0, 49, 0, 37, 0, 45, 4, 0, 4, 0, 1, 0, 2, 0, 1, 1, 2, 8, 0, 0, 1, 14, 2, 0, 4, 0, 13, 3, 0, 1, 0, 1, 14, 2, 0, 49, 0, 37, 0, 45, 4, 0, 4, 0, 1, 0, 2, 0, 1, 1, 2, 8, 0, 0, 1, 17, 2, 0, 4, 0, 13, 3, 0, 1, 0, 1, 17, 2, 0, 49, 0, 52, 4, 0, 4, 0, 1, 0, 2, 0, 1, 1, 2, 4, 0, 0, 1, 20, 2, 4, 1, 4, 0, 1, 0, 2, 0, 1, 1, 2, 12, 0, 0, 1, 20, 2, 0, 45, 4, 0, 4, 0, 1, 0, 2, 0, 1, 1, 2, 8, 0, 0, 1, 17, 2, 4, 1, 4, 0, 1, 0, 2, 0, 1, 1, 2, 10, 0, 0, 1, 17, 2, 0, 45, 4, 0, 4, 0, 1, 0, 2, 0, 1, 1, 2, 8, 0, 0, 1, 14, 2, 4, 1, 4, 0, 1, 0, 2, 0, 1, 1, 2, 8, 0, 0, 1, 14, 2, 0, 45, 4, 0, 4, 0, 1, 0, 2, 0, 1, 1, 2, 8, 0, 0, 1, 11, 2, 4, 1, 4, 0, 1, 0, 2, 0, 1, 1, 2, 6, 0, 0, 1, 11, 2, 0, 45, 4, 0, 4, 0, 1, 0, 2, 0, 1, 1, 2, 8, 0, 0, 1, 8, 2, 4, 1, 4, 0, 1, 0, 2, 0, 1, 1, 2, 4, 0, 0, 1, 8, 2, 0, 45, 4, 0, 4, 0, 1, 0, 2, 0, 1, 1, 2, 8, 0, 0, 1, 5, 2, 4, 1, 4, 0, 1, 0, 2, 0, 1, 1, 2, 2, 0, 0, 1, 5, 2, 0, 45, 4, 0, 4, 0, 1, 0, 2, 0, 1, 1, 2, 8, 0, 0, 1, 0, 2, 0, 7, 0, 53, 4, 0, 4, 0, 1, 0, 2, 0, 1, 1, 2, 4, 0, 0, 1, 0, 2, 0, 54, 4, 0, 4, 0, 1, 0, 2, 0, 1, 1, 2, 2, 0, 0, 1, 0, 2]
set_option maxRecDepth 1000000 in
theorem ckie_289 : ck_in0 cktb_289 ckcn_289 ckpt_289 4000 ckce_289_0 = true := by decide +kernel
theorem ckco_289 : ck_CO ckcn_289 := ck_con (tab := cktb_289) (pats := ckpt_289) (List.forall_mem_cons.mpr ⟨ckco_282, (fun _ h => absurd h List.not_mem_nil)⟩) ckie_289 (fun _ h => absurd h List.not_mem_nil)
