theorem sub_G {ws : List Cond} (h : ∀ w ∈ ws, w ∈ lw_tbl) (hg : ws.all goodWord = true) : GoodIn pm_G ws := fun w hw => ⟨pm_inG (h w hw) (List.all_eq_true.mp hg w hw), good_of_word (List.all_eq_true.mp hg w hw)⟩
set_option maxRecDepth 100000 in
theorem cg_X10_init_r1 : ∀ w ∈ wsX10_init_r1, w ∈ lw_tbl := mem_r [132, 133, 134, 242, 561, 135, 136, 109, 563, 350, 245, 115, 564, 565, 352, 353, 116, 566, 397, 399, 118, 567, 418, 419] rfl
set_option maxRecDepth 100000 in
theorem cg_X10_init_r2 : ∀ w ∈ wsX10_init_r2, w ∈ lw_tbl := mem_r [119, 568, 431, 432, 120, 569, 447, 448, 121, 570, 483, 484, 122, 571, 572, 573, 531, 532, 123, 575, 334, 576, 578, 138] rfl
set_option maxRecDepth 100000 in
theorem cg_X10_init_r3 : ∀ w ∈ wsX10_init_r3, w ∈ lw_tbl := mem_r [139, 140, 141, 142, 110, 336, 244, 338, 243, 339, 340, 144, 145, 146, 204, 205, 219, 148, 149, 150, 151, 152, 153, 111] rfl
set_option maxRecDepth 100000 in
theorem cg_X10_init_r4 : ∀ w ∈ wsX10_init_r4, w ∈ lw_tbl := mem_r [154, 1815, 155, 156, 157, 158, 159, 1816, 161, 162, 163, 164, 165, 166, 167, 168, 169, 170, 112, 171, 172, 173, 174, 175] rfl
set_option maxRecDepth 100000 in
theorem cg_X10_init_r5 : ∀ w ∈ wsX10_init_r5, w ∈ lw_tbl := mem_r [177, 178, 113, 179, 180, 181, 114, 182, 183, 184, 185, 186, 187, 188, 189, 190, 191, 192, 193, 195, 197, 246, 247, 248] rfl
set_option maxRecDepth 100000 in
theorem cg_X10_init_r6 : ∀ w ∈ wsX10_init_r6, w ∈ lw_tbl := mem_r [249, 255, 257, 335, 263, 265, 273, 275, 282, 286, 299, 290, 351, 354, 355, 356, 357, 361, 367, 370, 371, 372, 373, 358] rfl
set_option maxRecDepth 100000 in
theorem cg_X10_init_r7 : ∀ w ∈ wsX10_init_r7, w ∈ lw_tbl := mem_r [359, 117, 360, 401, 402, 403, 406, 408, 421, 422, 423, 424, 425, 434, 435, 436, 437, 439, 450, 451, 452, 453, 455, 456] rfl
set_option maxRecDepth 100000 in
theorem cg_X10_init_r8 : ∀ w ∈ wsX10_init_r8, w ∈ lw_tbl := mem_r [459, 486, 487, 488, 494, 496, 498, 501, 534, 535, 536, 541, 542, 543, 544, 545] rfl
set_option maxRecDepth 100000 in
theorem cg_X10_init_h : Cond.code yX10_init cX10_init 1 none ∈ lw_tbl := List.mem_of_getElem? (i := 131) rfl
set_option maxRecDepth 100000 in
theorem gL_law_X10_init : GoodIn pm_G wsX10_init := sub_G (List.forall_mem_cons.mpr ⟨cg_X10_init_h, (List.forall_mem_append.mpr ⟨(List.forall_mem_append.mpr ⟨(List.forall_mem_append.mpr ⟨(List.forall_mem_append.mpr ⟨(List.forall_mem_append.mpr ⟨(List.forall_mem_append.mpr ⟨(List.forall_mem_append.mpr ⟨(List.forall_mem_append.mpr ⟨(List.forall_mem_append.mpr ⟨(List.forall_mem_append.mpr ⟨(List.forall_mem_append.mpr ⟨(List.forall_mem_append.mpr ⟨cg_X10_init_r1, (List.forall_mem_append.mpr ⟨cg_X10_init_r2, (List.forall_mem_append.mpr ⟨cg_X10_init_r3, (List.forall_mem_append.mpr ⟨cg_X10_init_r4, (List.forall_mem_append.mpr ⟨cg_X10_init_r5, (List.forall_mem_append.mpr ⟨cg_X10_init_r6, (List.forall_mem_append.mpr ⟨cg_X10_init_r7, cg_X10_init_r8⟩)⟩)⟩)⟩)⟩)⟩)⟩), inX10⟩), inX2⟩), inX4⟩), inX0⟩), inX1⟩), inX5⟩), inX7⟩), inX3⟩), inX9⟩), inX6⟩), inX8⟩)⟩) (by decide +kernel)
set_option maxRecDepth 100000 in
theorem cg_X11_init_r1 : ∀ w ∈ wsX11_init_r1, w ∈ lw_tbl := mem_r [1167, 133, 134, 242, 1180, 1181, 1185, 334, 1191, 1192, 1193, 1194, 1195, 1196, 1197, 1198, 1199, 1200, 1201, 1202, 1203, 335, 1204, 1205] rfl
set_option maxRecDepth 100000 in
theorem cg_X11_init_r2 : ∀ w ∈ wsX11_init_r2, w ∈ lw_tbl := mem_r [243, 1206, 1207, 1208, 1211, 1212, 1213, 1214, 1215, 1216, 1217, 1218, 1220, 1221, 1224, 1225, 1226, 1227, 1232, 1233, 1234, 1238, 1240, 1241] rfl
set_option maxRecDepth 100000 in
theorem cg_X11_init_r3 : ∀ w ∈ wsX11_init_r3, w ∈ lw_tbl := mem_r [1242, 1243, 1244, 1245, 1248, 1249, 1250, 1168, 1170, 45, 124, 1171, 1210, 1172, 1174, 46, 1175, 1219, 1222, 1223, 1176, 1178, 47, 1179] rfl
set_option maxRecDepth 100000 in
theorem cg_X11_init_r4 : ∀ w ∈ wsX11_init_r4, w ∈ lw_tbl := mem_r [1209] rfl
set_option maxRecDepth 100000 in
theorem cg_X11_init_h : Cond.code yX11_init cX11_init 2 none ∈ lw_tbl := List.mem_of_getElem? (i := 1166) rfl
set_option maxRecDepth 100000 in
theorem gL_law_X11_init : GoodIn pm_G wsX11_init := sub_G (List.forall_mem_cons.mpr ⟨cg_X11_init_h, (List.forall_mem_append.mpr ⟨(List.forall_mem_append.mpr ⟨cg_X11_init_r1, (List.forall_mem_append.mpr ⟨cg_X11_init_r2, (List.forall_mem_append.mpr ⟨cg_X11_init_r3, cg_X11_init_r4⟩)⟩)⟩), inX11⟩)⟩) (by decide +kernel)
