/-! Acts, exactly. -/
def ckpt_0 : List ck_Pt := []
def cktb_0 : List ck_Co := []
def ckce_0_0 : List Nat := [0, 25, 4, 0, 3, 0, 1, 0, 2, 0, 1, 1, 2, 0, 1, 2, 2]
set_option maxRecDepth 1000000 in
theorem ckie_0 : ck_in0 cktb_0 ckcn_0 ckpt_0 4000 ckce_0_0 = true := by decide +kernel
theorem ckco_0 : ck_CO ckcn_0 := ck_con (tab := cktb_0) (pats := ckpt_0) (fun _ h => absurd h List.not_mem_nil) ckie_0 (fun _ h => absurd h List.not_mem_nil)
def ckpt_1 : List ck_Pt := []
def cktb_1 : List ck_Co := []
def ckce_1_0 : List Nat := [0, 1011, 4, 0, 80, 0, 1, 0, 2, 0, 1, 1, 2, 0, 1, 2, 2, 0, 1, 3, 2, 0, 1, 4, 2, 0, 1, 5, 2, 0, 1, 6, 2, 0, 1, 7, 2, 0, 1, 8, 2, 0, 1, 9, 2, 0, 1, 10, 2, 0, 1, 11, 2, 0, 1, 12, 2, 0, 1, 13, 2, 0, 1, 14, 2, 0, 1, 15, 2, 0, 1, 16, 2, 0, 1, 17, 2, 0, 1, 18, 2, 0, 1, 19, 2, 0, 1, 20, 2, 0, 1, 21, 2, 0, 1, 22, 2, 0, 1, 23, 2, 0, 1, 24, 2, 0, 1, 25, 2, 0, 1, 26, 2, 0, 1, 27, 2, 0, 1, 28, 2, 0, 1, 29, 2, 0, 1, 30, 2, 0, 1, 31, 2, 0, 1, 32, 2, 0, 1, 33, 2, 0, 1, 34, 2, 0, 1, 35, 2, 0, 1, 36, 2, 0, 1, 37, 2, 0, 1, 38, 2, 0, 1, 39, 2, 0, 1, 40, 2, 0, 1, 41, 2, 0, 1, 42, 2, 0, 1, 43, 2, 0, 1, 44, 2, 0, 1, 45, 2, 0, 1, 46, 2, 0, 1, 47, 2, 0, 1, 48, 2, 0, 1, 49, 2, 0, 1, 50, 2, 0, 1, 51, 2, 0, 1, 52, 2, 0, 1, 53, 2, 0, 1, 54, 2, 0, 1, 55, 2, 0, 1, 56, 2, 0, 1, 57, 2, 0, 1, 58, 2, 0, 1, 59, 2, 0, 1, 60, 2, 0, 1, 61, 2, 0, 1, 62, 2, 0, 1, 63, 2, 0, 1, 64, 2, 0, 1, 65, 2, 0, 1, 66, 2, 0, 1, 67, 2, 0, 1, 68, 2, 0, 1, 69, 2, 0, 1, 70, 2, 0, 1, 71, 2, 0, 1, 72, 2, 0, 1, 73, 2, 0, 1, 74, 2, 0, 1, 75, 2, 0, 1, 76, 2, 0, 1, 77, 2, 0, 1, 78, 2, 0, 1, 79, 2]
set_option maxRecDepth 1000000 in
theorem ckie_1 : ck_in0 cktb_1 ckcn_1 ckpt_1 4000 ckce_1_0 = true := by decide +kernel
theorem ckco_1 : ck_CO ckcn_1 := ck_con (tab := cktb_1) (pats := ckpt_1) (fun _ h => absurd h List.not_mem_nil) ckie_1 (fun _ h => absurd h List.not_mem_nil)
def ckpt_2 : List ck_Pt := []
def cktb_2 : List ck_Co := []
def ckce_2_0 : List Nat := [0, 4, 4, 0, 0]
set_option maxRecDepth 1000000 in
theorem ckie_2 : ck_in0 cktb_2 ckcn_2 ckpt_2 4000 ckce_2_0 = true := by decide +kernel
theorem ckco_2 : ck_CO ckcn_2 := ck_con (tab := cktb_2) (pats := ckpt_2) (fun _ h => absurd h List.not_mem_nil) ckie_2 (fun _ h => absurd h List.not_mem_nil)
def ckpt_3 : List ck_Pt := []
def cktb_3 : List ck_Co := []
def ckce_3_0 : List Nat := [0, 4, 4, 0, 0]
set_option maxRecDepth 1000000 in
theorem ckie_3 : ck_in0 cktb_3 ckcn_3 ckpt_3 4000 ckce_3_0 = true := by decide +kernel
theorem ckco_3 : ck_CO ckcn_3 := ck_con (tab := cktb_3) (pats := ckpt_3) (fun _ h => absurd h List.not_mem_nil) ckie_3 (fun _ h => absurd h List.not_mem_nil)
def ckpt_4 : List ck_Pt := []
def cktb_4 : List ck_Co := []
def ckce_4_0 : List Nat := [0, 38, 4, 0, 3, 0, 1, 0, 2, 0, 1, 1, 2, 0, 1, 2, 2]
set_option maxRecDepth 1000000 in
theorem ckie_4 : ck_in0 cktb_4 ckcn_4 ckpt_4 4000 ckce_4_0 = true := by decide +kernel
theorem ckco_4 : ck_CO ckcn_4 := ck_con (tab := cktb_4) (pats := ckpt_4) (fun _ h => absurd h List.not_mem_nil) ckie_4 (fun _ h => absurd h List.not_mem_nil)
def ckpt_5 : List ck_Pt := []
def cktb_5 : List ck_Co := []
def ckce_5_0 : List Nat := [0, 55, 4, 0, 5, 0, 1, 0, 2, 0, 1, 1, 2, 0, 1, 2, 2, 0, 1, 3, 2, 0, 1, 4, 2]
set_option maxRecDepth 1000000 in
theorem ckie_5 : ck_in0 cktb_5 ckcn_5 ckpt_5 4000 ckce_5_0 = true := by decide +kernel
theorem ckco_5 : ck_CO ckcn_5 := ck_con (tab := cktb_5) (pats := ckpt_5) (fun _ h => absurd h List.not_mem_nil) ckie_5 (fun _ h => absurd h List.not_mem_nil)
def ckpt_6 : List ck_Pt := []
def cktb_6 : List ck_Co := []
def ckce_6_0 : List Nat := [0, 47, 4, 0, 3, 0, 1, 0, 2, 0, 1, 1, 2, 0, 1, 2, 2]
set_option maxRecDepth 1000000 in
theorem ckie_6 : ck_in0 cktb_6 ckcn_6 ckpt_6 4000 ckce_6_0 = true := by decide +kernel
theorem ckco_6 : ck_CO ckcn_6 := ck_con (tab := cktb_6) (pats := ckpt_6) (fun _ h => absurd h List.not_mem_nil) ckie_6 (fun _ h => absurd h List.not_mem_nil)
def ckpt_7 : List ck_Pt := []
def cktb_7 : List ck_Co := []
def ckce_7_0 : List Nat := [0, 55, 4, 0, 5, 0, 1, 0, 2, 0, 1, 1, 2, 0, 1, 2, 2, 0, 1, 3, 2, 0, 1, 4, 2]
set_option maxRecDepth 1000000 in
theorem ckie_7 : ck_in0 cktb_7 ckcn_7 ckpt_7 4000 ckce_7_0 = true := by decide +kernel
theorem ckco_7 : ck_CO ckcn_7 := ck_con (tab := cktb_7) (pats := ckpt_7) (fun _ h => absurd h List.not_mem_nil) ckie_7 (fun _ h => absurd h List.not_mem_nil)
