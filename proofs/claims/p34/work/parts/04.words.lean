set_option maxRecDepth 100000 in
theorem pm_fl_0_9 : Cond.fieldLink (pm_R 0) 9 (pm_R 0) (pm_T 0 0).2.1 (pm_T 0 0).2.2.1 ∈ lw_tbl := List.mem_of_getElem? (i := 361) rfl
set_option maxRecDepth 100000 in
theorem pm_fl_0_15 : Cond.fieldLink (pm_R 0) 15 (pm_R 0) (pm_T 0 2).2.1 (pm_T 0 2).2.2.1 ∈ lw_tbl := List.mem_of_getElem? (i := 367) rfl
set_option maxRecDepth 100000 in
theorem pm_fl_0_18 : Cond.fieldLink (pm_R 0) 18 (pm_R 0) (pm_T 0 3).2.1 (pm_T 0 3).2.2.1 ∈ lw_tbl := List.mem_of_getElem? (i := 370) rfl
set_option maxRecDepth 100000 in
theorem pm_fl_0_22 : Cond.fieldLink (pm_R 0) 22 (pm_R 0) (pm_T 0 4).2.1 (pm_T 0 4).2.2.1 ∈ lw_tbl := List.mem_of_getElem? (i := 371) rfl
set_option maxRecDepth 100000 in
theorem pm_fl_0_25 : Cond.fieldLink (pm_R 0) 25 (pm_R 0) (pm_T 0 5).2.1 (pm_T 0 5).2.2.1 ∈ lw_tbl := List.mem_of_getElem? (i := 372) rfl
set_option maxRecDepth 100000 in
theorem pm_fl_0_28 : Cond.fieldLink (pm_R 0) 28 (pm_R 0) (pm_T 0 6).2.1 (pm_T 0 6).2.2.1 ∈ lw_tbl := List.mem_of_getElem? (i := 373) rfl
set_option maxRecDepth 100000 in
theorem pm_fl_0_37 : Cond.fieldLink (pm_R 0) 37 (pm_R 0) (pm_T 0 1).2.1 (pm_T 0 1).2.2.1 ∈ lw_tbl := List.mem_of_getElem? (i := 364) rfl
set_option maxRecDepth 100000 in
theorem pm_fl_0_44 : Cond.fieldLink (pm_R 0) 44 (pm_R 0) (pm_T 0 7).2.1 (pm_T 0 7).2.2.1 ∈ lw_tbl := List.mem_of_getElem? (i := 374) rfl
set_option maxRecDepth 100000 in
theorem pm_fl_0_47 : Cond.fieldLink (pm_R 0) 47 (pm_R 0) (pm_T 0 8).2.1 (pm_T 0 8).2.2.1 ∈ lw_tbl := List.mem_of_getElem? (i := 376) rfl
set_option maxRecDepth 100000 in
theorem pm_fl_1_9 : Cond.fieldLink (pm_R 1) 9 (pm_R 1) (pm_T 1 1).2.1 (pm_T 1 1).2.2.1 ∈ lw_tbl := List.mem_of_getElem? (i := 406) rfl
set_option maxRecDepth 100000 in
theorem pm_fl_1_15 : Cond.fieldLink (pm_R 1) 15 (pm_R 1) (pm_T 1 3).2.1 (pm_T 1 3).2.2.1 ∈ lw_tbl := List.mem_of_getElem? (i := 408) rfl
set_option maxRecDepth 100000 in
theorem pm_fl_1_18 : Cond.fieldLink (pm_R 1) 18 (pm_R 1) (pm_T 1 0).2.1 (pm_T 1 0).2.2.1 ∈ lw_tbl := List.mem_of_getElem? (i := 404) rfl
set_option maxRecDepth 100000 in
theorem pm_fl_1_22 : Cond.fieldLink (pm_R 1) 22 (pm_R 0) (pm_T 0 1).2.1 (pm_T 0 1).2.2.1 ∈ lw_tbl := List.mem_of_getElem? (i := 365) rfl
set_option maxRecDepth 100000 in
theorem pm_fl_1_28 : Cond.fieldLink (pm_R 1) 28 (pm_R 1) (pm_T 1 2).2.1 (pm_T 1 2).2.2.1 ∈ lw_tbl := List.mem_of_getElem? (i := 407) rfl
set_option maxRecDepth 100000 in
theorem pm_fl_1_29 : Cond.fieldLink (pm_R 1) 29 (pm_R 0) (pm_T 0 0).2.1 (pm_T 0 0).2.2.1 ∈ lw_tbl := List.mem_of_getElem? (i := 362) rfl
set_option maxRecDepth 100000 in
theorem pm_fl_1_36 : Cond.fieldLink (pm_R 1) 36 (pm_R 0) (pm_T 0 2).2.1 (pm_T 0 2).2.2.1 ∈ lw_tbl := List.mem_of_getElem? (i := 368) rfl
set_option maxRecDepth 100000 in
theorem pm_fl_2_12 : Cond.fieldLink (pm_R 2) 12 (pm_R 2) (pm_T 2 0).2.1 (pm_T 2 0).2.2.1 ∈ lw_tbl := List.mem_of_getElem? (i := 336) rfl
set_option maxRecDepth 100000 in
theorem pm_fl_2_21 : Cond.fieldLink (pm_R 2) 21 (pm_R 2) (pm_T 2 1).2.1 (pm_T 2 1).2.2.1 ∈ lw_tbl := List.mem_of_getElem? (i := 338) rfl
set_option maxRecDepth 100000 in
theorem pm_fl_2_25 : Cond.fieldLink (pm_R 2) 25 (pm_R 2) (pm_T 2 2).2.1 (pm_T 2 2).2.2.1 ∈ lw_tbl := List.mem_of_getElem? (i := 339) rfl
set_option maxRecDepth 100000 in
theorem pm_fl_2_29 : Cond.fieldLink (pm_R 2) 29 (pm_R 2) (pm_T 2 3).2.1 (pm_T 2 3).2.2.1 ∈ lw_tbl := List.mem_of_getElem? (i := 340) rfl
set_option maxRecDepth 100000 in
theorem pm_fl_2_40 : Cond.fieldLink (pm_R 2) 40 (pm_R 8) (pm_T 8 8).2.1 (pm_T 8 8).2.2.1 ∈ lw_tbl := List.mem_of_getElem? (i := 216) rfl
set_option maxRecDepth 100000 in
theorem pm_fl_2_44 : Cond.fieldLink (pm_R 2) 44 (pm_R 8) (pm_T 8 5).2.1 (pm_T 8 5).2.2.1 ∈ lw_tbl := List.mem_of_getElem? (i := 210) rfl
set_option maxRecDepth 100000 in
theorem pm_fl_2_76 : Cond.fieldLink (pm_R 2) 76 (pm_R 4) (pm_T 4 0).2.1 (pm_T 4 0).2.2.1 ∈ lw_tbl := List.mem_of_getElem? (i := 252) rfl
set_option maxRecDepth 100000 in
theorem pm_fl_2_83 : Cond.fieldLink (pm_R 2) 83 (pm_R 8) (pm_T 8 6).2.1 (pm_T 8 6).2.2.1 ∈ lw_tbl := List.mem_of_getElem? (i := 212) rfl
set_option maxRecDepth 100000 in
theorem pm_fl_2_90 : Cond.fieldLink (pm_R 2) 90 (pm_R 4) (pm_T 4 2).2.1 (pm_T 4 2).2.2.1 ∈ lw_tbl := List.mem_of_getElem? (i := 258) rfl
set_option maxRecDepth 100000 in
theorem pm_fl_2_97 : Cond.fieldLink (pm_R 2) 97 (pm_R 4) (pm_T 4 1).2.1 (pm_T 4 1).2.2.1 ∈ lw_tbl := List.mem_of_getElem? (i := 256) rfl
set_option maxRecDepth 100000 in
theorem pm_fl_2_104 : Cond.fieldLink (pm_R 2) 104 (pm_R 8) (pm_T 8 7).2.1 (pm_T 8 7).2.2.1 ∈ lw_tbl := List.mem_of_getElem? (i := 215) rfl
set_option maxRecDepth 100000 in
theorem pm_fl_2_111 : Cond.fieldLink (pm_R 2) 111 (pm_R 4) (pm_T 4 3).2.1 (pm_T 4 3).2.2.1 ∈ lw_tbl := List.mem_of_getElem? (i := 261) rfl
set_option maxRecDepth 100000 in
theorem pm_fl_2_125 : Cond.fieldLink (pm_R 2) 125 (pm_R 4) (pm_T 4 4).2.1 (pm_T 4 4).2.2.1 ∈ lw_tbl := List.mem_of_getElem? (i := 264) rfl
set_option maxRecDepth 100000 in
theorem pm_fl_2_129 : Cond.fieldLink (pm_R 2) 129 (pm_R 4) (pm_T 4 5).2.1 (pm_T 4 5).2.2.1 ∈ lw_tbl := List.mem_of_getElem? (i := 267) rfl
set_option maxRecDepth 100000 in
theorem pm_fl_2_132 : Cond.fieldLink (pm_R 2) 132 (pm_R 4) (pm_T 4 6).2.1 (pm_T 4 6).2.2.1 ∈ lw_tbl := List.mem_of_getElem? (i := 271) rfl
set_option maxRecDepth 100000 in
theorem pm_fl_2_135 : Cond.fieldLink (pm_R 2) 135 (pm_R 4) (pm_T 4 7).2.1 (pm_T 4 7).2.2.1 ∈ lw_tbl := List.mem_of_getElem? (i := 274) rfl
set_option maxRecDepth 100000 in
theorem pm_fl_2_141 : Cond.fieldLink (pm_R 2) 141 (pm_R 4) (pm_T 4 8).2.1 (pm_T 4 8).2.2.1 ∈ lw_tbl := List.mem_of_getElem? (i := 278) rfl
set_option maxRecDepth 100000 in
theorem pm_fl_2_144 : Cond.fieldLink (pm_R 2) 144 (pm_R 4) (pm_T 4 9).2.1 (pm_T 4 9).2.2.1 ∈ lw_tbl := List.mem_of_getElem? (i := 280) rfl
set_option maxRecDepth 100000 in
theorem pm_fl_2_147 : Cond.fieldLink (pm_R 2) 147 (pm_R 8) (pm_T 8 4).2.1 (pm_T 8 4).2.2.1 ∈ lw_tbl := List.mem_of_getElem? (i := 209) rfl
set_option maxRecDepth 100000 in
theorem pm_fl_2_150 : Cond.fieldLink (pm_R 2) 150 (pm_R 4) (pm_T 4 10).2.1 (pm_T 4 10).2.2.1 ∈ lw_tbl := List.mem_of_getElem? (i := 285) rfl
set_option maxRecDepth 100000 in
theorem pm_fl_2_153 : Cond.fieldLink (pm_R 2) 153 (pm_R 4) (pm_T 4 13).2.1 (pm_T 4 13).2.2.1 ∈ lw_tbl := List.mem_of_getElem? (i := 296) rfl
set_option maxRecDepth 100000 in
theorem pm_fl_2_157 : Cond.fieldLink (pm_R 2) 157 (pm_R 4) (pm_T 4 12).2.1 (pm_T 4 12).2.2.1 ∈ lw_tbl := List.mem_of_getElem? (i := 293) rfl
set_option maxRecDepth 100000 in
theorem pm_fl_2_160 : Cond.fieldLink (pm_R 2) 160 (pm_R 4) (pm_T 4 14).2.1 (pm_T 4 14).2.2.1 ∈ lw_tbl := List.mem_of_getElem? (i := 298) rfl
set_option maxRecDepth 100000 in
theorem pm_fl_2_163 : Cond.fieldLink (pm_R 2) 163 (pm_R 4) (pm_T 4 15).2.1 (pm_T 4 15).2.2.1 ∈ lw_tbl := List.mem_of_getElem? (i := 300) rfl
set_option maxRecDepth 100000 in
theorem pm_fl_2_169 : Cond.fieldLink (pm_R 2) 169 (pm_R 4) (pm_T 4 11).2.1 (pm_T 4 11).2.2.1 ∈ lw_tbl := List.mem_of_getElem? (i := 289) rfl
set_option maxRecDepth 100000 in
theorem pm_fl_3_9 : Cond.fieldLink (pm_R 3) 9 (pm_R 3) (pm_T 3 0).2.1 (pm_T 3 0).2.2.1 ∈ lw_tbl := List.mem_of_getElem? (i := 453) rfl
set_option maxRecDepth 100000 in
theorem pm_fl_3_15 : Cond.fieldLink (pm_R 3) 15 (pm_R 3) (pm_T 3 1).2.1 (pm_T 3 1).2.2.1 ∈ lw_tbl := List.mem_of_getElem? (i := 455) rfl
set_option maxRecDepth 100000 in
theorem pm_fl_3_18 : Cond.fieldLink (pm_R 3) 18 (pm_R 3) (pm_T 3 2).2.1 (pm_T 3 2).2.2.1 ∈ lw_tbl := List.mem_of_getElem? (i := 456) rfl
set_option maxRecDepth 100000 in
theorem pm_fl_3_21 : Cond.fieldLink (pm_R 3) 21 (pm_R 3) (pm_T 3 4).2.1 (pm_T 3 4).2.2.1 ∈ lw_tbl := List.mem_of_getElem? (i := 459) rfl
set_option maxRecDepth 100000 in
theorem pm_fl_3_25 : Cond.fieldLink (pm_R 3) 25 (pm_R 3) (pm_T 3 3).2.1 (pm_T 3 3).2.2.1 ∈ lw_tbl := List.mem_of_getElem? (i := 458) rfl
set_option maxRecDepth 100000 in
theorem pm_fl_3_41 : Cond.fieldLink (pm_R 3) 41 (pm_R 9) (pm_T 9 0).2.1 (pm_T 9 0).2.2.1 ∈ lw_tbl := List.mem_of_getElem? (i := 490) rfl
set_option maxRecDepth 100000 in
theorem pm_fl_3_52 : Cond.fieldLink (pm_R 3) 52 (pm_R 9) (pm_T 9 2).2.1 (pm_T 9 2).2.2.1 ∈ lw_tbl := List.mem_of_getElem? (i := 495) rfl
set_option maxRecDepth 100000 in
theorem pm_fl_3_59 : Cond.fieldLink (pm_R 3) 59 (pm_R 9) (pm_T 9 3).2.1 (pm_T 9 3).2.2.1 ∈ lw_tbl := List.mem_of_getElem? (i := 497) rfl
set_option maxRecDepth 100000 in
theorem pm_fl_3_66 : Cond.fieldLink (pm_R 3) 66 (pm_R 9) (pm_T 9 4).2.1 (pm_T 9 4).2.2.1 ∈ lw_tbl := List.mem_of_getElem? (i := 499) rfl
set_option maxRecDepth 100000 in
theorem pm_fl_3_73 : Cond.fieldLink (pm_R 3) 73 (pm_R 3) (pm_T 3 8).2.1 (pm_T 3 8).2.2.1 ∈ lw_tbl := List.mem_of_getElem? (i := 463) rfl
set_option maxRecDepth 100000 in
theorem pm_fl_3_82 : Cond.fieldLink (pm_R 3) 82 (pm_R 3) (pm_T 3 7).2.1 (pm_T 3 7).2.2.1 ∈ lw_tbl := List.mem_of_getElem? (i := 462) rfl
set_option maxRecDepth 100000 in
theorem pm_fl_3_85 : Cond.fieldLink (pm_R 3) 85 (pm_R 3) (pm_T 3 5).2.1 (pm_T 3 5).2.2.1 ∈ lw_tbl := List.mem_of_getElem? (i := 460) rfl
set_option maxRecDepth 100000 in
theorem pm_fl_3_91 : Cond.fieldLink (pm_R 3) 91 (pm_R 3) (pm_T 3 6).2.1 (pm_T 3 6).2.2.1 ∈ lw_tbl := List.mem_of_getElem? (i := 461) rfl
set_option maxRecDepth 100000 in
theorem pm_fl_4_9 : Cond.fieldLink (pm_R 4) 9 (pm_R 4) (pm_T 4 1).2.1 (pm_T 4 1).2.2.1 ∈ lw_tbl := List.mem_of_getElem? (i := 255) rfl
set_option maxRecDepth 100000 in
theorem pm_fl_4_15 : Cond.fieldLink (pm_R 4) 15 (pm_R 4) (pm_T 4 2).2.1 (pm_T 4 2).2.2.1 ∈ lw_tbl := List.mem_of_getElem? (i := 257) rfl
set_option maxRecDepth 100000 in
theorem pm_fl_4_19 : Cond.fieldLink (pm_R 4) 19 (pm_R 4) (pm_T 4 4).2.1 (pm_T 4 4).2.2.1 ∈ lw_tbl := List.mem_of_getElem? (i := 263) rfl
set_option maxRecDepth 100000 in
theorem pm_fl_4_23 : Cond.fieldLink (pm_R 4) 23 (pm_R 4) (pm_T 4 5).2.1 (pm_T 4 5).2.2.1 ∈ lw_tbl := List.mem_of_getElem? (i := 265) rfl
set_option maxRecDepth 100000 in
theorem pm_fl_4_26 : Cond.fieldLink (pm_R 4) 26 (pm_R 4) (pm_T 4 7).2.1 (pm_T 4 7).2.2.1 ∈ lw_tbl := List.mem_of_getElem? (i := 273) rfl
set_option maxRecDepth 100000 in
theorem pm_fl_4_29 : Cond.fieldLink (pm_R 4) 29 (pm_R 4) (pm_T 4 8).2.1 (pm_T 4 8).2.2.1 ∈ lw_tbl := List.mem_of_getElem? (i := 275) rfl
set_option maxRecDepth 100000 in
theorem pm_fl_4_32 : Cond.fieldLink (pm_R 4) 32 (pm_R 4) (pm_T 4 10).2.1 (pm_T 4 10).2.2.1 ∈ lw_tbl := List.mem_of_getElem? (i := 282) rfl
set_option maxRecDepth 100000 in
theorem pm_fl_4_35 : Cond.fieldLink (pm_R 4) 35 (pm_R 4) (pm_T 4 11).2.1 (pm_T 4 11).2.2.1 ∈ lw_tbl := List.mem_of_getElem? (i := 286) rfl
set_option maxRecDepth 100000 in
theorem pm_fl_4_38 : Cond.fieldLink (pm_R 4) 38 (pm_R 4) (pm_T 4 15).2.1 (pm_T 4 15).2.2.1 ∈ lw_tbl := List.mem_of_getElem? (i := 299) rfl
set_option maxRecDepth 100000 in
theorem pm_fl_4_41 : Cond.fieldLink (pm_R 4) 41 (pm_R 4) (pm_T 4 12).2.1 (pm_T 4 12).2.2.1 ∈ lw_tbl := List.mem_of_getElem? (i := 290) rfl
set_option maxRecDepth 100000 in
theorem pm_fl_4_45 : Cond.fieldLink (pm_R 4) 45 (pm_R 4) (pm_T 4 0).2.1 (pm_T 4 0).2.2.1 ∈ lw_tbl := List.mem_of_getElem? (i := 250) rfl
set_option maxRecDepth 100000 in
theorem pm_fl_4_48 : Cond.fieldLink (pm_R 4) 48 (pm_R 4) (pm_T 4 3).2.1 (pm_T 4 3).2.2.1 ∈ lw_tbl := List.mem_of_getElem? (i := 260) rfl
set_option maxRecDepth 100000 in
theorem pm_fl_4_57 : Cond.fieldLink (pm_R 4) 57 (pm_R 4) (pm_T 4 6).2.1 (pm_T 4 6).2.2.1 ∈ lw_tbl := List.mem_of_getElem? (i := 268) rfl
set_option maxRecDepth 100000 in
theorem pm_fl_4_60 : Cond.fieldLink (pm_R 4) 60 (pm_R 4) (pm_T 4 9).2.1 (pm_T 4 9).2.2.1 ∈ lw_tbl := List.mem_of_getElem? (i := 279) rfl
set_option maxRecDepth 100000 in
theorem pm_fl_4_63 : Cond.fieldLink (pm_R 4) 63 (pm_R 4) (pm_T 4 13).2.1 (pm_T 4 13).2.2.1 ∈ lw_tbl := List.mem_of_getElem? (i := 295) rfl
set_option maxRecDepth 100000 in
theorem pm_fl_4_67 : Cond.fieldLink (pm_R 4) 67 (pm_R 4) (pm_T 4 14).2.1 (pm_T 4 14).2.2.1 ∈ lw_tbl := List.mem_of_getElem? (i := 297) rfl
set_option maxRecDepth 100000 in
theorem pm_fl_5_9 : Cond.fieldLink (pm_R 5) 9 (pm_R 5) (pm_T 5 0).2.1 (pm_T 5 0).2.2.1 ∈ lw_tbl := List.mem_of_getElem? (i := 424) rfl
set_option maxRecDepth 100000 in
theorem pm_fl_5_15 : Cond.fieldLink (pm_R 5) 15 (pm_R 5) (pm_T 5 1).2.1 (pm_T 5 1).2.2.1 ∈ lw_tbl := List.mem_of_getElem? (i := 425) rfl
set_option maxRecDepth 100000 in
theorem pm_fl_5_22 : Cond.fieldLink (pm_R 5) 22 (pm_R 4) (pm_T 4 12).2.1 (pm_T 4 12).2.2.1 ∈ lw_tbl := List.mem_of_getElem? (i := 291) rfl
set_option maxRecDepth 100000 in
theorem pm_fl_5_28 : Cond.fieldLink (pm_R 5) 28 (pm_R 4) (pm_T 4 6).2.1 (pm_T 4 6).2.2.1 ∈ lw_tbl := List.mem_of_getElem? (i := 269) rfl
set_option maxRecDepth 100000 in
theorem pm_fl_5_31 : Cond.fieldLink (pm_R 5) 31 (pm_R 4) (pm_T 4 0).2.1 (pm_T 4 0).2.2.1 ∈ lw_tbl := List.mem_of_getElem? (i := 251) rfl
set_option maxRecDepth 100000 in
theorem pm_fl_5_48 : Cond.fieldLink (pm_R 5) 48 (pm_R 4) (pm_T 4 8).2.1 (pm_T 4 8).2.2.1 ∈ lw_tbl := List.mem_of_getElem? (i := 277) rfl
set_option maxRecDepth 100000 in
theorem pm_fl_5_56 : Cond.fieldLink (pm_R 5) 56 (pm_R 4) (pm_T 4 10).2.1 (pm_T 4 10).2.2.1 ∈ lw_tbl := List.mem_of_getElem? (i := 284) rfl
set_option maxRecDepth 100000 in
theorem pm_fl_5_59 : Cond.fieldLink (pm_R 5) 59 (pm_R 4) (pm_T 4 11).2.1 (pm_T 4 11).2.2.1 ∈ lw_tbl := List.mem_of_getElem? (i := 288) rfl
set_option maxRecDepth 100000 in
theorem pm_fl_6_9 : Cond.fieldLink (pm_R 6) 9 (pm_R 6) (pm_T 6 2).2.1 (pm_T 6 2).2.2.1 ∈ lw_tbl := List.mem_of_getElem? (i := 541) rfl
set_option maxRecDepth 100000 in
theorem pm_fl_6_15 : Cond.fieldLink (pm_R 6) 15 (pm_R 6) (pm_T 6 3).2.1 (pm_T 6 3).2.2.1 ∈ lw_tbl := List.mem_of_getElem? (i := 542) rfl
set_option maxRecDepth 100000 in
theorem pm_fl_6_18 : Cond.fieldLink (pm_R 6) 18 (pm_R 6) (pm_T 6 4).2.1 (pm_T 6 4).2.2.1 ∈ lw_tbl := List.mem_of_getElem? (i := 543) rfl
set_option maxRecDepth 100000 in
theorem pm_fl_6_22 : Cond.fieldLink (pm_R 6) 22 (pm_R 6) (pm_T 6 5).2.1 (pm_T 6 5).2.2.1 ∈ lw_tbl := List.mem_of_getElem? (i := 544) rfl
set_option maxRecDepth 100000 in
theorem pm_fl_6_25 : Cond.fieldLink (pm_R 6) 25 (pm_R 6) (pm_T 6 6).2.1 (pm_T 6 6).2.2.1 ∈ lw_tbl := List.mem_of_getElem? (i := 545) rfl
set_option maxRecDepth 100000 in
theorem pm_fl_6_28 : Cond.fieldLink (pm_R 6) 28 (pm_R 6) (pm_T 6 0).2.1 (pm_T 6 0).2.2.1 ∈ lw_tbl := List.mem_of_getElem? (i := 537) rfl
set_option maxRecDepth 100000 in
theorem pm_fl_6_32 : Cond.fieldLink (pm_R 6) 32 (pm_R 6) (pm_T 6 1).2.1 (pm_T 6 1).2.2.1 ∈ lw_tbl := List.mem_of_getElem? (i := 539) rfl
set_option maxRecDepth 100000 in
theorem pm_fl_7_9 : Cond.fieldLink (pm_R 7) 9 (pm_R 7) (pm_T 7 0).2.1 (pm_T 7 0).2.2.1 ∈ lw_tbl := List.mem_of_getElem? (i := 437) rfl
set_option maxRecDepth 100000 in
theorem pm_fl_7_15 : Cond.fieldLink (pm_R 7) 15 (pm_R 7) (pm_T 7 2).2.1 (pm_T 7 2).2.2.1 ∈ lw_tbl := List.mem_of_getElem? (i := 439) rfl
set_option maxRecDepth 100000 in
theorem pm_fl_7_18 : Cond.fieldLink (pm_R 7) 18 (pm_R 7) (pm_T 7 1).2.1 (pm_T 7 1).2.2.1 ∈ lw_tbl := List.mem_of_getElem? (i := 438) rfl
set_option maxRecDepth 100000 in
theorem pm_fl_7_26 : Cond.fieldLink (pm_R 7) 26 (pm_R 4) (pm_T 4 6).2.1 (pm_T 4 6).2.2.1 ∈ lw_tbl := List.mem_of_getElem? (i := 270) rfl
set_option maxRecDepth 100000 in
theorem pm_fl_7_31 : Cond.fieldLink (pm_R 7) 31 (pm_R 4) (pm_T 4 8).2.1 (pm_T 4 8).2.2.1 ∈ lw_tbl := List.mem_of_getElem? (i := 276) rfl
set_option maxRecDepth 100000 in
theorem pm_fl_7_46 : Cond.fieldLink (pm_R 7) 46 (pm_R 4) (pm_T 4 11).2.1 (pm_T 4 11).2.2.1 ∈ lw_tbl := List.mem_of_getElem? (i := 287) rfl
set_option maxRecDepth 100000 in
theorem pm_fl_7_49 : Cond.fieldLink (pm_R 7) 49 (pm_R 4) (pm_T 4 10).2.1 (pm_T 4 10).2.2.1 ∈ lw_tbl := List.mem_of_getElem? (i := 283) rfl
set_option maxRecDepth 100000 in
theorem pm_fl_8_27 : Cond.fieldLink (pm_R 8) 27 (pm_R 8) (pm_T 8 0).2.1 (pm_T 8 0).2.2.1 ∈ lw_tbl := List.mem_of_getElem? (i := 204) rfl
set_option maxRecDepth 100000 in
theorem pm_fl_8_31 : Cond.fieldLink (pm_R 8) 31 (pm_R 8) (pm_T 8 1).2.1 (pm_T 8 1).2.2.1 ∈ lw_tbl := List.mem_of_getElem? (i := 205) rfl
set_option maxRecDepth 100000 in
theorem pm_fl_8_35 : Cond.fieldLink (pm_R 8) 35 (pm_R 8) (pm_T 8 9).2.1 (pm_T 8 9).2.2.1 ∈ lw_tbl := List.mem_of_getElem? (i := 219) rfl
set_option maxRecDepth 100000 in
theorem pm_fl_8_54 : Cond.fieldLink (pm_R 8) 54 (pm_R 8) (pm_T 8 2).2.1 (pm_T 8 2).2.2.1 ∈ lw_tbl := List.mem_of_getElem? (i := 206) rfl
set_option maxRecDepth 100000 in
theorem pm_fl_8_57 : Cond.fieldLink (pm_R 8) 57 (pm_R 8) (pm_T 8 3).2.1 (pm_T 8 3).2.2.1 ∈ lw_tbl := List.mem_of_getElem? (i := 207) rfl
set_option maxRecDepth 100000 in
theorem pm_fl_8_60 : Cond.fieldLink (pm_R 8) 60 (pm_R 8) (pm_T 8 8).2.1 (pm_T 8 8).2.2.1 ∈ lw_tbl := List.mem_of_getElem? (i := 217) rfl
set_option maxRecDepth 100000 in
theorem pm_fl_8_66 : Cond.fieldLink (pm_R 8) 66 (pm_R 8) (pm_T 8 4).2.1 (pm_T 8 4).2.2.1 ∈ lw_tbl := List.mem_of_getElem? (i := 208) rfl
set_option maxRecDepth 100000 in
theorem pm_fl_8_69 : Cond.fieldLink (pm_R 8) 69 (pm_R 8) (pm_T 8 5).2.1 (pm_T 8 5).2.2.1 ∈ lw_tbl := List.mem_of_getElem? (i := 211) rfl
set_option maxRecDepth 100000 in
theorem pm_fl_8_82 : Cond.fieldLink (pm_R 8) 82 (pm_R 8) (pm_T 8 6).2.1 (pm_T 8 6).2.2.1 ∈ lw_tbl := List.mem_of_getElem? (i := 213) rfl
set_option maxRecDepth 100000 in
theorem pm_fl_8_86 : Cond.fieldLink (pm_R 8) 86 (pm_R 8) (pm_T 8 7).2.1 (pm_T 8 7).2.2.1 ∈ lw_tbl := List.mem_of_getElem? (i := 214) rfl
set_option maxRecDepth 100000 in
theorem pm_fl_9_9 : Cond.fieldLink (pm_R 9) 9 (pm_R 9) (pm_T 9 2).2.1 (pm_T 9 2).2.2.1 ∈ lw_tbl := List.mem_of_getElem? (i := 494) rfl
set_option maxRecDepth 100000 in
theorem pm_fl_9_15 : Cond.fieldLink (pm_R 9) 15 (pm_R 9) (pm_T 9 3).2.1 (pm_T 9 3).2.2.1 ∈ lw_tbl := List.mem_of_getElem? (i := 496) rfl
set_option maxRecDepth 100000 in
theorem pm_fl_9_18 : Cond.fieldLink (pm_R 9) 18 (pm_R 9) (pm_T 9 4).2.1 (pm_T 9 4).2.2.1 ∈ lw_tbl := List.mem_of_getElem? (i := 498) rfl
set_option maxRecDepth 100000 in
theorem pm_fl_9_21 : Cond.fieldLink (pm_R 9) 21 (pm_R 9) (pm_T 9 5).2.1 (pm_T 9 5).2.2.1 ∈ lw_tbl := List.mem_of_getElem? (i := 501) rfl
set_option maxRecDepth 100000 in
theorem pm_fl_9_24 : Cond.fieldLink (pm_R 9) 24 (pm_R 9) (pm_T 9 7).2.1 (pm_T 9 7).2.2.1 ∈ lw_tbl := List.mem_of_getElem? (i := 504) rfl
set_option maxRecDepth 100000 in
theorem pm_fl_9_28 : Cond.fieldLink (pm_R 9) 28 (pm_R 9) (pm_T 9 8).2.1 (pm_T 9 8).2.2.1 ∈ lw_tbl := List.mem_of_getElem? (i := 505) rfl
set_option maxRecDepth 100000 in
theorem pm_fl_9_32 : Cond.fieldLink (pm_R 9) 32 (pm_R 9) (pm_T 9 9).2.1 (pm_T 9 9).2.2.1 ∈ lw_tbl := List.mem_of_getElem? (i := 506) rfl
set_option maxRecDepth 100000 in
theorem pm_fl_9_35 : Cond.fieldLink (pm_R 9) 35 (pm_R 9) (pm_T 9 10).2.1 (pm_T 9 10).2.2.1 ∈ lw_tbl := List.mem_of_getElem? (i := 507) rfl
set_option maxRecDepth 100000 in
theorem pm_fl_9_38 : Cond.fieldLink (pm_R 9) 38 (pm_R 4) (pm_T 4 12).2.1 (pm_T 4 12).2.2.1 ∈ lw_tbl := List.mem_of_getElem? (i := 292) rfl
set_option maxRecDepth 100000 in
theorem pm_fl_9_43 : Cond.fieldLink (pm_R 9) 43 (pm_R 9) (pm_T 9 6).2.1 (pm_T 9 6).2.2.1 ∈ lw_tbl := List.mem_of_getElem? (i := 503) rfl
set_option maxRecDepth 100000 in
theorem pm_fl_9_44 : Cond.fieldLink (pm_R 9) 44 (pm_R 9) (pm_T 9 1).2.1 (pm_T 9 1).2.2.1 ∈ lw_tbl := List.mem_of_getElem? (i := 492) rfl
set_option maxRecDepth 100000 in
theorem pm_fl_9_61 : Cond.fieldLink (pm_R 9) 61 (pm_R 9) (pm_T 9 0).2.1 (pm_T 9 0).2.2.1 ∈ lw_tbl := List.mem_of_getElem? (i := 489) rfl
set_option maxRecDepth 100000 in
theorem pm_fl_9_72 : Cond.fieldLink (pm_R 9) 72 (pm_R 4) (pm_T 4 0).2.1 (pm_T 4 0).2.2.1 ∈ lw_tbl := List.mem_of_getElem? (i := 253) rfl
set_option maxRecDepth 100000 in
theorem pm_fl_10_9 : Cond.fieldLink (pm_R 10) 9 (pm_R 10) (pm_T 10 0).2.1 (pm_T 10 0).2.2.1 ∈ lw_tbl := List.mem_of_getElem? (i := 561) rfl
set_option maxRecDepth 100000 in
theorem pm_fl_10_16 : Cond.fieldLink (pm_R 10) 16 (pm_R 10) (pm_T 10 2).2.1 (pm_T 10 2).2.2.1 ∈ lw_tbl := List.mem_of_getElem? (i := 563) rfl
set_option maxRecDepth 100000 in
theorem pm_fl_10_23 : Cond.fieldLink (pm_R 10) 23 (pm_R 10) (pm_T 10 3).2.1 (pm_T 10 3).2.2.1 ∈ lw_tbl := List.mem_of_getElem? (i := 564) rfl
set_option maxRecDepth 100000 in
theorem pm_fl_10_27 : Cond.fieldLink (pm_R 10) 27 (pm_R 10) (pm_T 10 4).2.1 (pm_T 10 4).2.2.1 ∈ lw_tbl := List.mem_of_getElem? (i := 565) rfl
set_option maxRecDepth 100000 in
theorem pm_fl_10_33 : Cond.fieldLink (pm_R 10) 33 (pm_R 10) (pm_T 10 5).2.1 (pm_T 10 5).2.2.1 ∈ lw_tbl := List.mem_of_getElem? (i := 566) rfl
set_option maxRecDepth 100000 in
theorem pm_fl_10_40 : Cond.fieldLink (pm_R 10) 40 (pm_R 10) (pm_T 10 6).2.1 (pm_T 10 6).2.2.1 ∈ lw_tbl := List.mem_of_getElem? (i := 567) rfl
set_option maxRecDepth 100000 in
theorem pm_fl_10_47 : Cond.fieldLink (pm_R 10) 47 (pm_R 10) (pm_T 10 7).2.1 (pm_T 10 7).2.2.1 ∈ lw_tbl := List.mem_of_getElem? (i := 568) rfl
set_option maxRecDepth 100000 in
theorem pm_fl_10_54 : Cond.fieldLink (pm_R 10) 54 (pm_R 10) (pm_T 10 8).2.1 (pm_T 10 8).2.2.1 ∈ lw_tbl := List.mem_of_getElem? (i := 569) rfl
set_option maxRecDepth 100000 in
theorem pm_fl_10_61 : Cond.fieldLink (pm_R 10) 61 (pm_R 10) (pm_T 10 9).2.1 (pm_T 10 9).2.2.1 ∈ lw_tbl := List.mem_of_getElem? (i := 570) rfl
set_option maxRecDepth 100000 in
theorem pm_fl_10_68 : Cond.fieldLink (pm_R 10) 68 (pm_R 10) (pm_T 10 10).2.1 (pm_T 10 10).2.2.1 ∈ lw_tbl := List.mem_of_getElem? (i := 571) rfl
set_option maxRecDepth 100000 in
theorem pm_fl_10_72 : Cond.fieldLink (pm_R 10) 72 (pm_R 10) (pm_T 10 11).2.1 (pm_T 10 11).2.2.1 ∈ lw_tbl := List.mem_of_getElem? (i := 572) rfl
set_option maxRecDepth 100000 in
theorem pm_fl_10_75 : Cond.fieldLink (pm_R 10) 75 (pm_R 10) (pm_T 10 12).2.1 (pm_T 10 12).2.2.1 ∈ lw_tbl := List.mem_of_getElem? (i := 573) rfl
set_option maxRecDepth 100000 in
theorem pm_fl_10_81 : Cond.fieldLink (pm_R 10) 81 (pm_R 10) (pm_T 10 14).2.1 (pm_T 10 14).2.2.1 ∈ lw_tbl := List.mem_of_getElem? (i := 575) rfl
set_option maxRecDepth 100000 in
theorem pm_fl_10_85 : Cond.fieldLink (pm_R 10) 85 (pm_R 10) (pm_T 10 15).2.1 (pm_T 10 15).2.2.1 ∈ lw_tbl := List.mem_of_getElem? (i := 576) rfl
set_option maxRecDepth 100000 in
theorem pm_fl_10_89 : Cond.fieldLink (pm_R 10) 89 (pm_R 10) (pm_T 10 17).2.1 (pm_T 10 17).2.2.1 ∈ lw_tbl := List.mem_of_getElem? (i := 578) rfl
set_option maxRecDepth 100000 in
theorem pm_fl_10_92 : Cond.fieldLink (pm_R 10) 92 (pm_R 10) (pm_T 10 1).2.1 (pm_T 10 1).2.2.1 ∈ lw_tbl := List.mem_of_getElem? (i := 562) rfl
set_option maxRecDepth 100000 in
theorem pm_fl_10_107 : Cond.fieldLink (pm_R 10) 107 (pm_R 4) (pm_T 4 0).2.1 (pm_T 4 0).2.2.1 ∈ lw_tbl := List.mem_of_getElem? (i := 254) rfl
set_option maxRecDepth 100000 in
theorem pm_fl_10_113 : Cond.fieldLink (pm_R 10) 113 (pm_R 1) (pm_T 1 0).2.1 (pm_T 1 0).2.2.1 ∈ lw_tbl := List.mem_of_getElem? (i := 405) rfl
set_option maxRecDepth 100000 in
theorem pm_fl_10_122 : Cond.fieldLink (pm_R 10) 122 (pm_R 10) (pm_T 10 13).2.1 (pm_T 10 13).2.2.1 ∈ lw_tbl := List.mem_of_getElem? (i := 574) rfl
set_option maxRecDepth 100000 in
theorem pm_fl_10_125 : Cond.fieldLink (pm_R 10) 125 (pm_R 6) (pm_T 6 0).2.1 (pm_T 6 0).2.2.1 ∈ lw_tbl := List.mem_of_getElem? (i := 538) rfl
set_option maxRecDepth 100000 in
theorem pm_fl_10_128 : Cond.fieldLink (pm_R 10) 128 (pm_R 10) (pm_T 10 16).2.1 (pm_T 10 16).2.2.1 ∈ lw_tbl := List.mem_of_getElem? (i := 577) rfl
set_option maxRecDepth 100000 in
theorem pm_fl_10_131 : Cond.fieldLink (pm_R 10) 131 (pm_R 2) (pm_T 2 0).2.1 (pm_T 2 0).2.2.1 ∈ lw_tbl := List.mem_of_getElem? (i := 337) rfl
set_option maxRecDepth 100000 in
theorem pm_fl_10_135 : Cond.fieldLink (pm_R 10) 135 (pm_R 8) (pm_T 8 8).2.1 (pm_T 8 8).2.2.1 ∈ lw_tbl := List.mem_of_getElem? (i := 218) rfl
set_option maxRecDepth 100000 in
theorem pm_fl_10_140 : Cond.fieldLink (pm_R 10) 140 (pm_R 8) (pm_T 8 9).2.1 (pm_T 8 9).2.2.1 ∈ lw_tbl := List.mem_of_getElem? (i := 220) rfl
set_option maxRecDepth 100000 in
theorem pm_fl_10_150 : Cond.fieldLink (pm_R 10) 150 (pm_R 4) (pm_T 4 2).2.1 (pm_T 4 2).2.2.1 ∈ lw_tbl := List.mem_of_getElem? (i := 259) rfl
set_option maxRecDepth 100000 in
theorem pm_fl_10_154 : Cond.fieldLink (pm_R 10) 154 (pm_R 4) (pm_T 4 5).2.1 (pm_T 4 5).2.2.1 ∈ lw_tbl := List.mem_of_getElem? (i := 266) rfl
set_option maxRecDepth 100000 in
theorem pm_fl_10_164 : Cond.fieldLink (pm_R 10) 164 (pm_R 0) (pm_T 0 2).2.1 (pm_T 0 2).2.2.1 ∈ lw_tbl := List.mem_of_getElem? (i := 369) rfl
set_option maxRecDepth 100000 in
theorem pm_fl_10_177 : Cond.fieldLink (pm_R 10) 177 (pm_R 0) (pm_T 0 1).2.1 (pm_T 0 1).2.2.1 ∈ lw_tbl := List.mem_of_getElem? (i := 366) rfl
set_option maxRecDepth 100000 in
theorem pm_fl_10_194 : Cond.fieldLink (pm_R 10) 194 (pm_R 0) (pm_T 0 0).2.1 (pm_T 0 0).2.2.1 ∈ lw_tbl := List.mem_of_getElem? (i := 363) rfl
set_option maxRecDepth 100000 in
theorem pm_fl_10_231 : Cond.fieldLink (pm_R 10) 231 (pm_R 9) (pm_T 9 4).2.1 (pm_T 9 4).2.2.1 ∈ lw_tbl := List.mem_of_getElem? (i := 500) rfl
set_option maxRecDepth 100000 in
theorem pm_fl_10_238 : Cond.fieldLink (pm_R 10) 238 (pm_R 4) (pm_T 4 12).2.1 (pm_T 4 12).2.2.1 ∈ lw_tbl := List.mem_of_getElem? (i := 294) rfl
set_option maxRecDepth 100000 in
theorem pm_fl_10_241 : Cond.fieldLink (pm_R 10) 241 (pm_R 3) (pm_T 3 0).2.1 (pm_T 3 0).2.2.1 ∈ lw_tbl := List.mem_of_getElem? (i := 454) rfl
set_option maxRecDepth 100000 in
theorem pm_fl_10_273 : Cond.fieldLink (pm_R 10) 273 (pm_R 4) (pm_T 4 6).2.1 (pm_T 4 6).2.2.1 ∈ lw_tbl := List.mem_of_getElem? (i := 272) rfl
set_option maxRecDepth 100000 in
theorem pm_fl_10_279 : Cond.fieldLink (pm_R 10) 279 (pm_R 9) (pm_T 9 1).2.1 (pm_T 9 1).2.2.1 ∈ lw_tbl := List.mem_of_getElem? (i := 493) rfl
set_option maxRecDepth 100000 in
theorem pm_fl_10_282 : Cond.fieldLink (pm_R 10) 282 (pm_R 9) (pm_T 9 0).2.1 (pm_T 9 0).2.2.1 ∈ lw_tbl := List.mem_of_getElem? (i := 491) rfl
set_option maxRecDepth 100000 in
theorem pm_fl_10_294 : Cond.fieldLink (pm_R 10) 294 (pm_R 3) (pm_T 3 2).2.1 (pm_T 3 2).2.2.1 ∈ lw_tbl := List.mem_of_getElem? (i := 457) rfl
set_option maxRecDepth 100000 in
theorem pm_fl_10_310 : Cond.fieldLink (pm_R 10) 310 (pm_R 6) (pm_T 6 1).2.1 (pm_T 6 1).2.2.1 ∈ lw_tbl := List.mem_of_getElem? (i := 540) rfl
set_option maxRecDepth 100000 in
theorem pm_fl_10_325 : Cond.fieldLink (pm_R 10) 325 (pm_R 4) (pm_T 4 3).2.1 (pm_T 4 3).2.2.1 ∈ lw_tbl := List.mem_of_getElem? (i := 262) rfl
set_option maxRecDepth 100000 in
theorem pm_fl_10_328 : Cond.fieldLink (pm_R 10) 328 (pm_R 4) (pm_T 4 9).2.1 (pm_T 4 9).2.2.1 ∈ lw_tbl := List.mem_of_getElem? (i := 281) rfl
set_option maxRecDepth 100000 in
theorem pm_fl_10_331 : Cond.fieldLink (pm_R 10) 331 (pm_R 0) (pm_T 0 7).2.1 (pm_T 0 7).2.2.1 ∈ lw_tbl := List.mem_of_getElem? (i := 375) rfl
set_option maxRecDepth 100000 in
theorem pm_fl_10_334 : Cond.fieldLink (pm_R 10) 334 (pm_R 0) (pm_T 0 8).2.1 (pm_T 0 8).2.2.1 ∈ lw_tbl := List.mem_of_getElem? (i := 377) rfl
set_option maxRecDepth 100000 in
theorem pm_fl_11_7 : Cond.fieldLink (pm_R 11) 7 (pm_R 11) (pm_T 11 0).2.1 (pm_T 11 0).2.2.1 ∈ lw_tbl := List.mem_of_getElem? (i := 1180) rfl
set_option maxRecDepth 100000 in
theorem pm_fl_11_13 : Cond.fieldLink (pm_R 11) 13 (pm_R 11) (pm_T 11 1).2.1 (pm_T 11 1).2.2.1 ∈ lw_tbl := List.mem_of_getElem? (i := 1181) rfl
set_option maxRecDepth 100000 in
theorem pm_fl_11_16 : Cond.fieldLink (pm_R 11) 16 (pm_R 11) (pm_T 11 5).2.1 (pm_T 11 5).2.2.1 ∈ lw_tbl := List.mem_of_getElem? (i := 1185) rfl
set_option maxRecDepth 100000 in
theorem pm_fl_11_20 : Cond.fieldLink (pm_R 11) 20 (pm_R 11) (pm_T 11 11).2.1 (pm_T 11 11).2.2.1 ∈ lw_tbl := List.mem_of_getElem? (i := 1191) rfl
set_option maxRecDepth 100000 in
theorem pm_fl_11_24 : Cond.fieldLink (pm_R 11) 24 (pm_R 11) (pm_T 11 12).2.1 (pm_T 11 12).2.2.1 ∈ lw_tbl := List.mem_of_getElem? (i := 1192) rfl
set_option maxRecDepth 100000 in
theorem pm_fl_11_27 : Cond.fieldLink (pm_R 11) 27 (pm_R 11) (pm_T 11 13).2.1 (pm_T 11 13).2.2.1 ∈ lw_tbl := List.mem_of_getElem? (i := 1193) rfl
set_option maxRecDepth 100000 in
theorem pm_fl_11_30 : Cond.fieldLink (pm_R 11) 30 (pm_R 11) (pm_T 11 14).2.1 (pm_T 11 14).2.2.1 ∈ lw_tbl := List.mem_of_getElem? (i := 1194) rfl
set_option maxRecDepth 100000 in
theorem pm_fl_11_33 : Cond.fieldLink (pm_R 11) 33 (pm_R 11) (pm_T 11 15).2.1 (pm_T 11 15).2.2.1 ∈ lw_tbl := List.mem_of_getElem? (i := 1195) rfl
set_option maxRecDepth 100000 in
theorem pm_fl_11_36 : Cond.fieldLink (pm_R 11) 36 (pm_R 11) (pm_T 11 16).2.1 (pm_T 11 16).2.2.1 ∈ lw_tbl := List.mem_of_getElem? (i := 1196) rfl
set_option maxRecDepth 100000 in
theorem pm_fl_11_39 : Cond.fieldLink (pm_R 11) 39 (pm_R 11) (pm_T 11 17).2.1 (pm_T 11 17).2.2.1 ∈ lw_tbl := List.mem_of_getElem? (i := 1197) rfl
set_option maxRecDepth 100000 in
theorem pm_fl_11_42 : Cond.fieldLink (pm_R 11) 42 (pm_R 11) (pm_T 11 18).2.1 (pm_T 11 18).2.2.1 ∈ lw_tbl := List.mem_of_getElem? (i := 1198) rfl
set_option maxRecDepth 100000 in
theorem pm_fl_11_45 : Cond.fieldLink (pm_R 11) 45 (pm_R 11) (pm_T 11 19).2.1 (pm_T 11 19).2.2.1 ∈ lw_tbl := List.mem_of_getElem? (i := 1199) rfl
set_option maxRecDepth 100000 in
theorem pm_fl_11_48 : Cond.fieldLink (pm_R 11) 48 (pm_R 11) (pm_T 11 20).2.1 (pm_T 11 20).2.2.1 ∈ lw_tbl := List.mem_of_getElem? (i := 1200) rfl
set_option maxRecDepth 100000 in
theorem pm_fl_11_51 : Cond.fieldLink (pm_R 11) 51 (pm_R 11) (pm_T 11 21).2.1 (pm_T 11 21).2.2.1 ∈ lw_tbl := List.mem_of_getElem? (i := 1201) rfl
set_option maxRecDepth 100000 in
theorem pm_fl_11_54 : Cond.fieldLink (pm_R 11) 54 (pm_R 11) (pm_T 11 22).2.1 (pm_T 11 22).2.2.1 ∈ lw_tbl := List.mem_of_getElem? (i := 1202) rfl
set_option maxRecDepth 100000 in
theorem pm_fl_11_57 : Cond.fieldLink (pm_R 11) 57 (pm_R 11) (pm_T 11 23).2.1 (pm_T 11 23).2.2.1 ∈ lw_tbl := List.mem_of_getElem? (i := 1203) rfl
set_option maxRecDepth 100000 in
theorem pm_fl_11_60 : Cond.fieldLink (pm_R 11) 60 (pm_R 11) (pm_T 11 24).2.1 (pm_T 11 24).2.2.1 ∈ lw_tbl := List.mem_of_getElem? (i := 1204) rfl
set_option maxRecDepth 100000 in
theorem pm_fl_11_64 : Cond.fieldLink (pm_R 11) 64 (pm_R 11) (pm_T 11 25).2.1 (pm_T 11 25).2.2.1 ∈ lw_tbl := List.mem_of_getElem? (i := 1205) rfl
set_option maxRecDepth 100000 in
theorem pm_fl_11_67 : Cond.fieldLink (pm_R 11) 67 (pm_R 11) (pm_T 11 26).2.1 (pm_T 11 26).2.2.1 ∈ lw_tbl := List.mem_of_getElem? (i := 1206) rfl
set_option maxRecDepth 100000 in
theorem pm_fl_11_71 : Cond.fieldLink (pm_R 11) 71 (pm_R 11) (pm_T 11 27).2.1 (pm_T 11 27).2.2.1 ∈ lw_tbl := List.mem_of_getElem? (i := 1207) rfl
set_option maxRecDepth 100000 in
theorem pm_fl_11_74 : Cond.fieldLink (pm_R 11) 74 (pm_R 11) (pm_T 11 28).2.1 (pm_T 11 28).2.2.1 ∈ lw_tbl := List.mem_of_getElem? (i := 1208) rfl
set_option maxRecDepth 100000 in
theorem pm_fl_11_77 : Cond.fieldLink (pm_R 11) 77 (pm_R 11) (pm_T 11 31).2.1 (pm_T 11 31).2.2.1 ∈ lw_tbl := List.mem_of_getElem? (i := 1211) rfl
set_option maxRecDepth 100000 in
theorem pm_fl_11_80 : Cond.fieldLink (pm_R 11) 80 (pm_R 11) (pm_T 11 32).2.1 (pm_T 11 32).2.2.1 ∈ lw_tbl := List.mem_of_getElem? (i := 1212) rfl
set_option maxRecDepth 100000 in
theorem pm_fl_11_83 : Cond.fieldLink (pm_R 11) 83 (pm_R 11) (pm_T 11 33).2.1 (pm_T 11 33).2.2.1 ∈ lw_tbl := List.mem_of_getElem? (i := 1213) rfl
set_option maxRecDepth 100000 in
theorem pm_fl_11_86 : Cond.fieldLink (pm_R 11) 86 (pm_R 11) (pm_T 11 34).2.1 (pm_T 11 34).2.2.1 ∈ lw_tbl := List.mem_of_getElem? (i := 1214) rfl
set_option maxRecDepth 100000 in
theorem pm_fl_11_89 : Cond.fieldLink (pm_R 11) 89 (pm_R 11) (pm_T 11 35).2.1 (pm_T 11 35).2.2.1 ∈ lw_tbl := List.mem_of_getElem? (i := 1215) rfl
set_option maxRecDepth 100000 in
theorem pm_fl_11_92 : Cond.fieldLink (pm_R 11) 92 (pm_R 11) (pm_T 11 36).2.1 (pm_T 11 36).2.2.1 ∈ lw_tbl := List.mem_of_getElem? (i := 1216) rfl
set_option maxRecDepth 100000 in
theorem pm_fl_11_95 : Cond.fieldLink (pm_R 11) 95 (pm_R 11) (pm_T 11 37).2.1 (pm_T 11 37).2.2.1 ∈ lw_tbl := List.mem_of_getElem? (i := 1217) rfl
set_option maxRecDepth 100000 in
theorem pm_fl_11_98 : Cond.fieldLink (pm_R 11) 98 (pm_R 11) (pm_T 11 38).2.1 (pm_T 11 38).2.2.1 ∈ lw_tbl := List.mem_of_getElem? (i := 1218) rfl
set_option maxRecDepth 100000 in
theorem pm_fl_11_101 : Cond.fieldLink (pm_R 11) 101 (pm_R 11) (pm_T 11 40).2.1 (pm_T 11 40).2.2.1 ∈ lw_tbl := List.mem_of_getElem? (i := 1220) rfl
set_option maxRecDepth 100000 in
theorem pm_fl_11_104 : Cond.fieldLink (pm_R 11) 104 (pm_R 11) (pm_T 11 41).2.1 (pm_T 11 41).2.2.1 ∈ lw_tbl := List.mem_of_getElem? (i := 1221) rfl
set_option maxRecDepth 100000 in
theorem pm_fl_11_107 : Cond.fieldLink (pm_R 11) 107 (pm_R 11) (pm_T 11 44).2.1 (pm_T 11 44).2.2.1 ∈ lw_tbl := List.mem_of_getElem? (i := 1224) rfl
set_option maxRecDepth 100000 in
theorem pm_fl_11_110 : Cond.fieldLink (pm_R 11) 110 (pm_R 11) (pm_T 11 45).2.1 (pm_T 11 45).2.2.1 ∈ lw_tbl := List.mem_of_getElem? (i := 1225) rfl
set_option maxRecDepth 100000 in
theorem pm_fl_11_113 : Cond.fieldLink (pm_R 11) 113 (pm_R 11) (pm_T 11 46).2.1 (pm_T 11 46).2.2.1 ∈ lw_tbl := List.mem_of_getElem? (i := 1226) rfl
set_option maxRecDepth 100000 in
theorem pm_fl_11_116 : Cond.fieldLink (pm_R 11) 116 (pm_R 11) (pm_T 11 47).2.1 (pm_T 11 47).2.2.1 ∈ lw_tbl := List.mem_of_getElem? (i := 1227) rfl
set_option maxRecDepth 100000 in
theorem pm_fl_11_119 : Cond.fieldLink (pm_R 11) 119 (pm_R 11) (pm_T 11 52).2.1 (pm_T 11 52).2.2.1 ∈ lw_tbl := List.mem_of_getElem? (i := 1232) rfl
set_option maxRecDepth 100000 in
theorem pm_fl_11_122 : Cond.fieldLink (pm_R 11) 122 (pm_R 11) (pm_T 11 53).2.1 (pm_T 11 53).2.2.1 ∈ lw_tbl := List.mem_of_getElem? (i := 1233) rfl
set_option maxRecDepth 100000 in
theorem pm_fl_11_125 : Cond.fieldLink (pm_R 11) 125 (pm_R 11) (pm_T 11 54).2.1 (pm_T 11 54).2.2.1 ∈ lw_tbl := List.mem_of_getElem? (i := 1234) rfl
set_option maxRecDepth 100000 in
theorem pm_fl_11_128 : Cond.fieldLink (pm_R 11) 128 (pm_R 11) (pm_T 11 58).2.1 (pm_T 11 58).2.2.1 ∈ lw_tbl := List.mem_of_getElem? (i := 1238) rfl
set_option maxRecDepth 100000 in
theorem pm_fl_11_131 : Cond.fieldLink (pm_R 11) 131 (pm_R 11) (pm_T 11 60).2.1 (pm_T 11 60).2.2.1 ∈ lw_tbl := List.mem_of_getElem? (i := 1240) rfl
set_option maxRecDepth 100000 in
theorem pm_fl_11_134 : Cond.fieldLink (pm_R 11) 134 (pm_R 11) (pm_T 11 61).2.1 (pm_T 11 61).2.2.1 ∈ lw_tbl := List.mem_of_getElem? (i := 1241) rfl
set_option maxRecDepth 100000 in
theorem pm_fl_11_137 : Cond.fieldLink (pm_R 11) 137 (pm_R 11) (pm_T 11 62).2.1 (pm_T 11 62).2.2.1 ∈ lw_tbl := List.mem_of_getElem? (i := 1242) rfl
set_option maxRecDepth 100000 in
theorem pm_fl_11_140 : Cond.fieldLink (pm_R 11) 140 (pm_R 11) (pm_T 11 63).2.1 (pm_T 11 63).2.2.1 ∈ lw_tbl := List.mem_of_getElem? (i := 1243) rfl
set_option maxRecDepth 100000 in
theorem pm_fl_11_143 : Cond.fieldLink (pm_R 11) 143 (pm_R 11) (pm_T 11 64).2.1 (pm_T 11 64).2.2.1 ∈ lw_tbl := List.mem_of_getElem? (i := 1244) rfl
set_option maxRecDepth 100000 in
theorem pm_fl_11_146 : Cond.fieldLink (pm_R 11) 146 (pm_R 11) (pm_T 11 65).2.1 (pm_T 11 65).2.2.1 ∈ lw_tbl := List.mem_of_getElem? (i := 1245) rfl
set_option maxRecDepth 100000 in
theorem pm_fl_11_149 : Cond.fieldLink (pm_R 11) 149 (pm_R 11) (pm_T 11 68).2.1 (pm_T 11 68).2.2.1 ∈ lw_tbl := List.mem_of_getElem? (i := 1248) rfl
set_option maxRecDepth 100000 in
theorem pm_fl_11_152 : Cond.fieldLink (pm_R 11) 152 (pm_R 11) (pm_T 11 69).2.1 (pm_T 11 69).2.2.1 ∈ lw_tbl := List.mem_of_getElem? (i := 1249) rfl
set_option maxRecDepth 100000 in
theorem pm_fl_11_155 : Cond.fieldLink (pm_R 11) 155 (pm_R 11) (pm_T 11 70).2.1 (pm_T 11 70).2.2.1 ∈ lw_tbl := List.mem_of_getElem? (i := 1250) rfl
set_option maxRecDepth 100000 in
theorem pm_fl_11_164 : Cond.fieldLink (pm_R 11) 164 (pm_R 11) (pm_T 11 3).2.1 (pm_T 11 3).2.2.1 ∈ lw_tbl := List.mem_of_getElem? (i := 1183) rfl
set_option maxRecDepth 100000 in
theorem pm_fl_11_167 : Cond.fieldLink (pm_R 11) 167 (pm_R 11) (pm_T 11 4).2.1 (pm_T 11 4).2.2.1 ∈ lw_tbl := List.mem_of_getElem? (i := 1184) rfl
set_option maxRecDepth 100000 in
theorem pm_fl_11_182 : Cond.fieldLink (pm_R 11) 182 (pm_R 11) (pm_T 11 7).2.1 (pm_T 11 7).2.2.1 ∈ lw_tbl := List.mem_of_getElem? (i := 1187) rfl
set_option maxRecDepth 100000 in
theorem pm_fl_11_185 : Cond.fieldLink (pm_R 11) 185 (pm_R 11) (pm_T 11 6).2.1 (pm_T 11 6).2.2.1 ∈ lw_tbl := List.mem_of_getElem? (i := 1186) rfl
set_option maxRecDepth 100000 in
theorem pm_fl_11_192 : Cond.fieldLink (pm_R 11) 192 (pm_R 11) (pm_T 11 8).2.1 (pm_T 11 8).2.2.1 ∈ lw_tbl := List.mem_of_getElem? (i := 1188) rfl
set_option maxRecDepth 100000 in
theorem pm_fl_11_199 : Cond.fieldLink (pm_R 11) 199 (pm_R 11) (pm_T 11 10).2.1 (pm_T 11 10).2.2.1 ∈ lw_tbl := List.mem_of_getElem? (i := 1190) rfl
set_option maxRecDepth 100000 in
theorem pm_fl_11_210 : Cond.fieldLink (pm_R 11) 210 (pm_R 11) (pm_T 11 9).2.1 (pm_T 11 9).2.2.1 ∈ lw_tbl := List.mem_of_getElem? (i := 1189) rfl
set_option maxRecDepth 100000 in
theorem pm_fl_11_227 : Cond.fieldLink (pm_R 11) 227 (pm_R 11) (pm_T 11 30).2.1 (pm_T 11 30).2.2.1 ∈ lw_tbl := List.mem_of_getElem? (i := 1210) rfl
set_option maxRecDepth 100000 in
theorem pm_fl_11_230 : Cond.fieldLink (pm_R 11) 230 (pm_R 11) (pm_T 11 2).2.1 (pm_T 11 2).2.2.1 ∈ lw_tbl := List.mem_of_getElem? (i := 1182) rfl
set_option maxRecDepth 100000 in
theorem pm_fl_11_233 : Cond.fieldLink (pm_R 11) 233 (pm_R 11) (pm_T 11 29).2.1 (pm_T 11 29).2.2.1 ∈ lw_tbl := List.mem_of_getElem? (i := 1209) rfl
set_option maxRecDepth 100000 in
theorem pm_fl_11_242 : Cond.fieldLink (pm_R 11) 242 (pm_R 11) (pm_T 11 51).2.1 (pm_T 11 51).2.2.1 ∈ lw_tbl := List.mem_of_getElem? (i := 1231) rfl
set_option maxRecDepth 100000 in
theorem pm_fl_11_245 : Cond.fieldLink (pm_R 11) 245 (pm_R 11) (pm_T 11 66).2.1 (pm_T 11 66).2.2.1 ∈ lw_tbl := List.mem_of_getElem? (i := 1246) rfl
set_option maxRecDepth 100000 in
theorem pm_fl_11_248 : Cond.fieldLink (pm_R 11) 248 (pm_R 11) (pm_T 11 59).2.1 (pm_T 11 59).2.2.1 ∈ lw_tbl := List.mem_of_getElem? (i := 1239) rfl
set_option maxRecDepth 100000 in
theorem pm_fl_11_336 : Cond.fieldLink (pm_R 11) 336 (pm_R 11) (pm_T 11 39).2.1 (pm_T 11 39).2.2.1 ∈ lw_tbl := List.mem_of_getElem? (i := 1219) rfl
set_option maxRecDepth 100000 in
theorem pm_fl_11_339 : Cond.fieldLink (pm_R 11) 339 (pm_R 11) (pm_T 11 42).2.1 (pm_T 11 42).2.2.1 ∈ lw_tbl := List.mem_of_getElem? (i := 1222) rfl
set_option maxRecDepth 100000 in
theorem pm_fl_11_342 : Cond.fieldLink (pm_R 11) 342 (pm_R 11) (pm_T 11 43).2.1 (pm_T 11 43).2.2.1 ∈ lw_tbl := List.mem_of_getElem? (i := 1223) rfl
set_option maxRecDepth 100000 in
theorem pm_fl_11_387 : Cond.fieldLink (pm_R 11) 387 (pm_R 11) (pm_T 11 50).2.1 (pm_T 11 50).2.2.1 ∈ lw_tbl := List.mem_of_getElem? (i := 1230) rfl
set_option maxRecDepth 100000 in
theorem pm_fl_11_390 : Cond.fieldLink (pm_R 11) 390 (pm_R 11) (pm_T 11 48).2.1 (pm_T 11 48).2.2.1 ∈ lw_tbl := List.mem_of_getElem? (i := 1228) rfl
set_option maxRecDepth 100000 in
theorem pm_fl_11_393 : Cond.fieldLink (pm_R 11) 393 (pm_R 11) (pm_T 11 49).2.1 (pm_T 11 49).2.2.1 ∈ lw_tbl := List.mem_of_getElem? (i := 1229) rfl
set_option maxRecDepth 100000 in
theorem pm_fl_11_409 : Cond.fieldLink (pm_R 11) 409 (pm_R 11) (pm_T 11 55).2.1 (pm_T 11 55).2.2.1 ∈ lw_tbl := List.mem_of_getElem? (i := 1235) rfl
set_option maxRecDepth 100000 in
theorem pm_fl_11_412 : Cond.fieldLink (pm_R 11) 412 (pm_R 11) (pm_T 11 56).2.1 (pm_T 11 56).2.2.1 ∈ lw_tbl := List.mem_of_getElem? (i := 1236) rfl
set_option maxRecDepth 100000 in
theorem pm_fl_11_415 : Cond.fieldLink (pm_R 11) 415 (pm_R 11) (pm_T 11 57).2.1 (pm_T 11 57).2.2.1 ∈ lw_tbl := List.mem_of_getElem? (i := 1237) rfl
set_option maxRecDepth 100000 in
theorem pm_fl_11_473 : Cond.fieldLink (pm_R 11) 473 (pm_R 11) (pm_T 11 67).2.1 (pm_T 11 67).2.2.1 ∈ lw_tbl := List.mem_of_getElem? (i := 1247) rfl
set_option maxRecDepth 100000 in
theorem pm_FL_ok : ∀ q ∈ pm_FL, Cond.fieldLink (pm_R q.1) q.2.1 (pm_R q.2.2.1) (pm_T q.2.2.1 q.2.2.2).2.1 (pm_T q.2.2.1 q.2.2.2).2.2.1 ∈ lw_tbl := (List.forall_mem_cons.mpr ⟨pm_fl_0_9, (List.forall_mem_cons.mpr ⟨pm_fl_0_15, (List.forall_mem_cons.mpr ⟨pm_fl_0_18, (List.forall_mem_cons.mpr ⟨pm_fl_0_22, (List.forall_mem_cons.mpr ⟨pm_fl_0_25, (List.forall_mem_cons.mpr ⟨pm_fl_0_28, (List.forall_mem_cons.mpr ⟨pm_fl_0_37, (List.forall_mem_cons.mpr ⟨pm_fl_0_44, (List.forall_mem_cons.mpr ⟨pm_fl_0_47, (List.forall_mem_cons.mpr ⟨pm_fl_1_9, (List.forall_mem_cons.mpr ⟨pm_fl_1_15, (List.forall_mem_cons.mpr ⟨pm_fl_1_18, (List.forall_mem_cons.mpr ⟨pm_fl_1_22, (List.forall_mem_cons.mpr ⟨pm_fl_1_28, (List.forall_mem_cons.mpr ⟨pm_fl_1_29, (List.forall_mem_cons.mpr ⟨pm_fl_1_36, (List.forall_mem_cons.mpr ⟨pm_fl_2_12, (List.forall_mem_cons.mpr ⟨pm_fl_2_21, (List.forall_mem_cons.mpr ⟨pm_fl_2_25, (List.forall_mem_cons.mpr ⟨pm_fl_2_29, (List.forall_mem_cons.mpr ⟨pm_fl_2_40, (List.forall_mem_cons.mpr ⟨pm_fl_2_44, (List.forall_mem_cons.mpr ⟨pm_fl_2_76, (List.forall_mem_cons.mpr ⟨pm_fl_2_83, (List.forall_mem_cons.mpr ⟨pm_fl_2_90, (List.forall_mem_cons.mpr ⟨pm_fl_2_97, (List.forall_mem_cons.mpr ⟨pm_fl_2_104, (List.forall_mem_cons.mpr ⟨pm_fl_2_111, (List.forall_mem_cons.mpr ⟨pm_fl_2_125, (List.forall_mem_cons.mpr ⟨pm_fl_2_129, (List.forall_mem_cons.mpr ⟨pm_fl_2_132, (List.forall_mem_cons.mpr ⟨pm_fl_2_135, (List.forall_mem_cons.mpr ⟨pm_fl_2_141, (List.forall_mem_cons.mpr ⟨pm_fl_2_144, (List.forall_mem_cons.mpr ⟨pm_fl_2_147, (List.forall_mem_cons.mpr ⟨pm_fl_2_150, (List.forall_mem_cons.mpr ⟨pm_fl_2_153, (List.forall_mem_cons.mpr ⟨pm_fl_2_157, (List.forall_mem_cons.mpr ⟨pm_fl_2_160, (List.forall_mem_cons.mpr ⟨pm_fl_2_163, (List.forall_mem_cons.mpr ⟨pm_fl_2_169, (List.forall_mem_cons.mpr ⟨pm_fl_3_9, (List.forall_mem_cons.mpr ⟨pm_fl_3_15, (List.forall_mem_cons.mpr ⟨pm_fl_3_18, (List.forall_mem_cons.mpr ⟨pm_fl_3_21, (List.forall_mem_cons.mpr ⟨pm_fl_3_25, (List.forall_mem_cons.mpr ⟨pm_fl_3_41, (List.forall_mem_cons.mpr ⟨pm_fl_3_52, (List.forall_mem_cons.mpr ⟨pm_fl_3_59, (List.forall_mem_cons.mpr ⟨pm_fl_3_66, (List.forall_mem_cons.mpr ⟨pm_fl_3_73, (List.forall_mem_cons.mpr ⟨pm_fl_3_82, (List.forall_mem_cons.mpr ⟨pm_fl_3_85, (List.forall_mem_cons.mpr ⟨pm_fl_3_91, (List.forall_mem_cons.mpr ⟨pm_fl_4_9, (List.forall_mem_cons.mpr ⟨pm_fl_4_15, (List.forall_mem_cons.mpr ⟨pm_fl_4_19, (List.forall_mem_cons.mpr ⟨pm_fl_4_23, (List.forall_mem_cons.mpr ⟨pm_fl_4_26, (List.forall_mem_cons.mpr ⟨pm_fl_4_29, (List.forall_mem_cons.mpr ⟨pm_fl_4_32, (List.forall_mem_cons.mpr ⟨pm_fl_4_35, (List.forall_mem_cons.mpr ⟨pm_fl_4_38, (List.forall_mem_cons.mpr ⟨pm_fl_4_41, (List.forall_mem_cons.mpr ⟨pm_fl_4_45, (List.forall_mem_cons.mpr ⟨pm_fl_4_48, (List.forall_mem_cons.mpr ⟨pm_fl_4_57, (List.forall_mem_cons.mpr ⟨pm_fl_4_60, (List.forall_mem_cons.mpr ⟨pm_fl_4_63, (List.forall_mem_cons.mpr ⟨pm_fl_4_67, (List.forall_mem_cons.mpr ⟨pm_fl_5_9, (List.forall_mem_cons.mpr ⟨pm_fl_5_15, (List.forall_mem_cons.mpr ⟨pm_fl_5_22, (List.forall_mem_cons.mpr ⟨pm_fl_5_28, (List.forall_mem_cons.mpr ⟨pm_fl_5_31, (List.forall_mem_cons.mpr ⟨pm_fl_5_48, (List.forall_mem_cons.mpr ⟨pm_fl_5_56, (List.forall_mem_cons.mpr ⟨pm_fl_5_59, (List.forall_mem_cons.mpr ⟨pm_fl_6_9, (List.forall_mem_cons.mpr ⟨pm_fl_6_15, (List.forall_mem_cons.mpr ⟨pm_fl_6_18, (List.forall_mem_cons.mpr ⟨pm_fl_6_22, (List.forall_mem_cons.mpr ⟨pm_fl_6_25, (List.forall_mem_cons.mpr ⟨pm_fl_6_28, (List.forall_mem_cons.mpr ⟨pm_fl_6_32, (List.forall_mem_cons.mpr ⟨pm_fl_7_9, (List.forall_mem_cons.mpr ⟨pm_fl_7_15, (List.forall_mem_cons.mpr ⟨pm_fl_7_18, (List.forall_mem_cons.mpr ⟨pm_fl_7_26, (List.forall_mem_cons.mpr ⟨pm_fl_7_31, (List.forall_mem_cons.mpr ⟨pm_fl_7_46, (List.forall_mem_cons.mpr ⟨pm_fl_7_49, (List.forall_mem_cons.mpr ⟨pm_fl_8_27, (List.forall_mem_cons.mpr ⟨pm_fl_8_31, (List.forall_mem_cons.mpr ⟨pm_fl_8_35, (List.forall_mem_cons.mpr ⟨pm_fl_8_54, (List.forall_mem_cons.mpr ⟨pm_fl_8_57, (List.forall_mem_cons.mpr ⟨pm_fl_8_60, (List.forall_mem_cons.mpr ⟨pm_fl_8_66, (List.forall_mem_cons.mpr ⟨pm_fl_8_69, (List.forall_mem_cons.mpr ⟨pm_fl_8_82, (List.forall_mem_cons.mpr ⟨pm_fl_8_86, (List.forall_mem_cons.mpr ⟨pm_fl_9_9, (List.forall_mem_cons.mpr ⟨pm_fl_9_15, (List.forall_mem_cons.mpr ⟨pm_fl_9_18, (List.forall_mem_cons.mpr ⟨pm_fl_9_21, (List.forall_mem_cons.mpr ⟨pm_fl_9_24, (List.forall_mem_cons.mpr ⟨pm_fl_9_28, (List.forall_mem_cons.mpr ⟨pm_fl_9_32, (List.forall_mem_cons.mpr ⟨pm_fl_9_35, (List.forall_mem_cons.mpr ⟨pm_fl_9_38, (List.forall_mem_cons.mpr ⟨pm_fl_9_43, (List.forall_mem_cons.mpr ⟨pm_fl_9_44, (List.forall_mem_cons.mpr ⟨pm_fl_9_61, (List.forall_mem_cons.mpr ⟨pm_fl_9_72, (List.forall_mem_cons.mpr ⟨pm_fl_10_9, (List.forall_mem_cons.mpr ⟨pm_fl_10_16, (List.forall_mem_cons.mpr ⟨pm_fl_10_23, (List.forall_mem_cons.mpr ⟨pm_fl_10_27, (List.forall_mem_cons.mpr ⟨pm_fl_10_33, (List.forall_mem_cons.mpr ⟨pm_fl_10_40, (List.forall_mem_cons.mpr ⟨pm_fl_10_47, (List.forall_mem_cons.mpr ⟨pm_fl_10_54, (List.forall_mem_cons.mpr ⟨pm_fl_10_61, (List.forall_mem_cons.mpr ⟨pm_fl_10_68, (List.forall_mem_cons.mpr ⟨pm_fl_10_72, (List.forall_mem_cons.mpr ⟨pm_fl_10_75, (List.forall_mem_cons.mpr ⟨pm_fl_10_81, (List.forall_mem_cons.mpr ⟨pm_fl_10_85, (List.forall_mem_cons.mpr ⟨pm_fl_10_89, (List.forall_mem_cons.mpr ⟨pm_fl_10_92, (List.forall_mem_cons.mpr ⟨pm_fl_10_107, (List.forall_mem_cons.mpr ⟨pm_fl_10_113, (List.forall_mem_cons.mpr ⟨pm_fl_10_122, (List.forall_mem_cons.mpr ⟨pm_fl_10_125, (List.forall_mem_cons.mpr ⟨pm_fl_10_128, (List.forall_mem_cons.mpr ⟨pm_fl_10_131, (List.forall_mem_cons.mpr ⟨pm_fl_10_135, (List.forall_mem_cons.mpr ⟨pm_fl_10_140, (List.forall_mem_cons.mpr ⟨pm_fl_10_150, (List.forall_mem_cons.mpr ⟨pm_fl_10_154, (List.forall_mem_cons.mpr ⟨pm_fl_10_164, (List.forall_mem_cons.mpr ⟨pm_fl_10_177, (List.forall_mem_cons.mpr ⟨pm_fl_10_194, (List.forall_mem_cons.mpr ⟨pm_fl_10_231, (List.forall_mem_cons.mpr ⟨pm_fl_10_238, (List.forall_mem_cons.mpr ⟨pm_fl_10_241, (List.forall_mem_cons.mpr ⟨pm_fl_10_273, (List.forall_mem_cons.mpr ⟨pm_fl_10_279, (List.forall_mem_cons.mpr ⟨pm_fl_10_282, (List.forall_mem_cons.mpr ⟨pm_fl_10_294, (List.forall_mem_cons.mpr ⟨pm_fl_10_310, (List.forall_mem_cons.mpr ⟨pm_fl_10_325, (List.forall_mem_cons.mpr ⟨pm_fl_10_328, (List.forall_mem_cons.mpr ⟨pm_fl_10_331, (List.forall_mem_cons.mpr ⟨pm_fl_10_334, (List.forall_mem_cons.mpr ⟨pm_fl_11_7, (List.forall_mem_cons.mpr ⟨pm_fl_11_13, (List.forall_mem_cons.mpr ⟨pm_fl_11_16, (List.forall_mem_cons.mpr ⟨pm_fl_11_20, (List.forall_mem_cons.mpr ⟨pm_fl_11_24, (List.forall_mem_cons.mpr ⟨pm_fl_11_27, (List.forall_mem_cons.mpr ⟨pm_fl_11_30, (List.forall_mem_cons.mpr ⟨pm_fl_11_33, (List.forall_mem_cons.mpr ⟨pm_fl_11_36, (List.forall_mem_cons.mpr ⟨pm_fl_11_39, (List.forall_mem_cons.mpr ⟨pm_fl_11_42, (List.forall_mem_cons.mpr ⟨pm_fl_11_45, (List.forall_mem_cons.mpr ⟨pm_fl_11_48, (List.forall_mem_cons.mpr ⟨pm_fl_11_51, (List.forall_mem_cons.mpr ⟨pm_fl_11_54, (List.forall_mem_cons.mpr ⟨pm_fl_11_57, (List.forall_mem_cons.mpr ⟨pm_fl_11_60, (List.forall_mem_cons.mpr ⟨pm_fl_11_64, (List.forall_mem_cons.mpr ⟨pm_fl_11_67, (List.forall_mem_cons.mpr ⟨pm_fl_11_71, (List.forall_mem_cons.mpr ⟨pm_fl_11_74, (List.forall_mem_cons.mpr ⟨pm_fl_11_77, (List.forall_mem_cons.mpr ⟨pm_fl_11_80, (List.forall_mem_cons.mpr ⟨pm_fl_11_83, (List.forall_mem_cons.mpr ⟨pm_fl_11_86, (List.forall_mem_cons.mpr ⟨pm_fl_11_89, (List.forall_mem_cons.mpr ⟨pm_fl_11_92, (List.forall_mem_cons.mpr ⟨pm_fl_11_95, (List.forall_mem_cons.mpr ⟨pm_fl_11_98, (List.forall_mem_cons.mpr ⟨pm_fl_11_101, (List.forall_mem_cons.mpr ⟨pm_fl_11_104, (List.forall_mem_cons.mpr ⟨pm_fl_11_107, (List.forall_mem_cons.mpr ⟨pm_fl_11_110, (List.forall_mem_cons.mpr ⟨pm_fl_11_113, (List.forall_mem_cons.mpr ⟨pm_fl_11_116, (List.forall_mem_cons.mpr ⟨pm_fl_11_119, (List.forall_mem_cons.mpr ⟨pm_fl_11_122, (List.forall_mem_cons.mpr ⟨pm_fl_11_125, (List.forall_mem_cons.mpr ⟨pm_fl_11_128, (List.forall_mem_cons.mpr ⟨pm_fl_11_131, (List.forall_mem_cons.mpr ⟨pm_fl_11_134, (List.forall_mem_cons.mpr ⟨pm_fl_11_137, (List.forall_mem_cons.mpr ⟨pm_fl_11_140, (List.forall_mem_cons.mpr ⟨pm_fl_11_143, (List.forall_mem_cons.mpr ⟨pm_fl_11_146, (List.forall_mem_cons.mpr ⟨pm_fl_11_149, (List.forall_mem_cons.mpr ⟨pm_fl_11_152, (List.forall_mem_cons.mpr ⟨pm_fl_11_155, (List.forall_mem_cons.mpr ⟨pm_fl_11_164, (List.forall_mem_cons.mpr ⟨pm_fl_11_167, (List.forall_mem_cons.mpr ⟨pm_fl_11_182, (List.forall_mem_cons.mpr ⟨pm_fl_11_185, (List.forall_mem_cons.mpr ⟨pm_fl_11_192, (List.forall_mem_cons.mpr ⟨pm_fl_11_199, (List.forall_mem_cons.mpr ⟨pm_fl_11_210, (List.forall_mem_cons.mpr ⟨pm_fl_11_227, (List.forall_mem_cons.mpr ⟨pm_fl_11_230, (List.forall_mem_cons.mpr ⟨pm_fl_11_233, (List.forall_mem_cons.mpr ⟨pm_fl_11_242, (List.forall_mem_cons.mpr ⟨pm_fl_11_245, (List.forall_mem_cons.mpr ⟨pm_fl_11_248, (List.forall_mem_cons.mpr ⟨pm_fl_11_336, (List.forall_mem_cons.mpr ⟨pm_fl_11_339, (List.forall_mem_cons.mpr ⟨pm_fl_11_342, (List.forall_mem_cons.mpr ⟨pm_fl_11_387, (List.forall_mem_cons.mpr ⟨pm_fl_11_390, (List.forall_mem_cons.mpr ⟨pm_fl_11_393, (List.forall_mem_cons.mpr ⟨pm_fl_11_409, (List.forall_mem_cons.mpr ⟨pm_fl_11_412, (List.forall_mem_cons.mpr ⟨pm_fl_11_415, (List.forall_mem_cons.mpr ⟨pm_fl_11_473, (fun _ h => absurd h List.not_mem_nil)⟩)⟩)⟩)⟩)⟩)⟩)⟩)⟩)⟩)⟩)⟩)⟩)⟩)⟩)⟩)⟩)⟩)⟩)⟩)⟩)⟩)⟩)⟩)⟩)⟩)⟩)⟩)⟩)⟩)⟩)⟩)⟩)⟩)⟩)⟩)⟩)⟩)⟩)⟩)⟩)⟩)⟩)⟩)⟩)⟩)⟩)⟩)⟩)⟩)⟩)⟩)⟩)⟩)⟩)⟩)⟩)⟩)⟩)⟩)⟩)⟩)⟩)⟩)⟩)⟩)⟩)⟩)⟩)⟩)⟩)⟩)⟩)⟩)⟩)⟩)⟩)⟩)⟩)⟩)⟩)⟩)⟩)⟩)⟩)⟩)⟩)⟩)⟩)⟩)⟩)⟩)⟩)⟩)⟩)⟩)⟩)⟩)⟩)⟩)⟩)⟩)⟩)⟩)⟩)⟩)⟩)⟩)⟩)⟩)⟩)⟩)⟩)⟩)⟩)⟩)⟩)⟩)⟩)⟩)⟩)⟩)⟩)⟩)⟩)⟩)⟩)⟩)⟩)⟩)⟩)⟩)⟩)⟩)⟩)⟩)⟩)⟩)⟩)⟩)⟩)⟩)⟩)⟩)⟩)⟩)⟩)⟩)⟩)⟩)⟩)⟩)⟩)⟩)⟩)⟩)⟩)⟩)⟩)⟩)⟩)⟩)⟩)⟩)⟩)⟩)⟩)⟩)⟩)⟩)⟩)⟩)⟩)⟩)⟩)⟩)⟩)⟩)⟩)⟩)⟩)⟩)⟩)⟩)⟩)⟩)⟩)⟩)⟩)⟩)⟩)⟩)⟩)⟩)⟩)⟩)⟩)⟩)⟩)⟩)⟩)⟩)⟩)⟩)⟩)⟩)⟩)⟩)⟩)⟩)⟩)⟩)⟩)⟩)⟩)⟩)⟩)⟩)⟩)⟩)⟩)⟩)⟩)⟩)⟩)⟩)⟩)⟩)
set_option maxRecDepth 100000 in
theorem pm_ml_0_31 : Cond.methodLink (pm_R 0) 31 yJ7_fill_53178 ∈ lw_tbl := List.mem_of_getElem? (i := 358) rfl
set_option maxRecDepth 100000 in
theorem pm_ml_0_41 : Cond.methodLink (pm_R 0) 41 yX0_forgetActs ∈ lw_tbl := List.mem_of_getElem? (i := 742) rfl
set_option maxRecDepth 100000 in
theorem pm_ml_0_50 : Cond.methodLink (pm_R 0) 50 yX0_note ∈ lw_tbl := List.mem_of_getElem? (i := 828) rfl
set_option maxRecDepth 100000 in
theorem pm_ml_0_54 : Cond.methodLink (pm_R 0) 54 yX0_doAgain ∈ lw_tbl := List.mem_of_getElem? (i := 836) rfl
set_option maxRecDepth 100000 in
theorem pm_ml_0_58 : Cond.methodLink (pm_R 0) 58 yX0_dropOldest ∈ lw_tbl := List.mem_of_getElem? (i := 832) rfl
set_option maxRecDepth 100000 in
theorem pm_ml_1_37 : Cond.methodLink (pm_R 1) 37 yX0_forgetActs ∈ lw_tbl := List.mem_of_getElem? (i := 1157) rfl
set_option maxRecDepth 100000 in
theorem pm_ml_2_33 : Cond.methodLink (pm_R 2) 33 yX4_empty ∈ lw_tbl := List.mem_of_getElem? (i := 636) rfl
set_option maxRecDepth 100000 in
theorem pm_ml_2_36 : Cond.methodLink (pm_R 2) 36 yX8_begin ∈ lw_tbl := List.mem_of_getElem? (i := 641) rfl
set_option maxRecDepth 100000 in
theorem pm_ml_2_47 : Cond.methodLink (pm_R 2) 47 yX2_readWord ∈ lw_tbl := List.mem_of_getElem? (i := 664) rfl
set_option maxRecDepth 100000 in
theorem pm_ml_2_51 : Cond.methodLink (pm_R 2) 51 yX2_readPair ∈ lw_tbl := List.mem_of_getElem? (i := 694) rfl
set_option maxRecDepth 100000 in
theorem pm_ml_2_54 : Cond.methodLink (pm_R 2) 54 yX2_readRule ∈ lw_tbl := List.mem_of_getElem? (i := 710) rfl
set_option maxRecDepth 100000 in
theorem pm_ml_2_57 : Cond.methodLink (pm_R 2) 57 yX2_readLength ∈ lw_tbl := List.mem_of_getElem? (i := 718) rfl
set_option maxRecDepth 100000 in
theorem pm_ml_2_60 : Cond.methodLink (pm_R 2) 60 yX2_readTurns ∈ lw_tbl := List.mem_of_getElem? (i := 722) rfl
set_option maxRecDepth 100000 in
theorem pm_ml_2_63 : Cond.methodLink (pm_R 2) 63 yX8_refuse ∈ lw_tbl := List.mem_of_getElem? (i := 676) rfl
set_option maxRecDepth 100000 in
theorem pm_ml_2_67 : Cond.methodLink (pm_R 2) 67 yX2_pass ∈ lw_tbl := List.mem_of_getElem? (i := 672) rfl
set_option maxRecDepth 100000 in
theorem pm_ml_2_70 : Cond.methodLink (pm_R 2) 70 yX2_bindParts ∈ lw_tbl := List.mem_of_getElem? (i := 726) rfl
set_option maxRecDepth 100000 in
theorem pm_ml_2_73 : Cond.methodLink (pm_R 2) 73 yX8_advance ∈ lw_tbl := List.mem_of_getElem? (i := 677) rfl
set_option maxRecDepth 100000 in
theorem pm_ml_2_79 : Cond.methodLink (pm_R 2) 79 yX2_passFirst ∈ lw_tbl := List.mem_of_getElem? (i := 668) rfl
set_option maxRecDepth 100000 in
theorem pm_ml_2_87 : Cond.methodLink (pm_R 2) 87 yX2_passNewName ∈ lw_tbl := List.mem_of_getElem? (i := 678) rfl
set_option maxRecDepth 100000 in
theorem pm_ml_2_93 : Cond.methodLink (pm_R 2) 93 yX2_readWorths ∈ lw_tbl := List.mem_of_getElem? (i := 686) rfl
set_option maxRecDepth 100000 in
theorem pm_ml_2_100 : Cond.methodLink (pm_R 2) 100 yX4_symbolOf ∈ lw_tbl := List.mem_of_getElem? (i := 682) rfl
set_option maxRecDepth 100000 in
theorem pm_ml_2_107 : Cond.methodLink (pm_R 2) 107 yX2_passNumber ∈ lw_tbl := List.mem_of_getElem? (i := 690) rfl
set_option maxRecDepth 100000 in
theorem pm_ml_2_114 : Cond.methodLink (pm_R 2) 114 yX2_symbolAtHand ∈ lw_tbl := List.mem_of_getElem? (i := 698) rfl
set_option maxRecDepth 100000 in
theorem pm_ml_2_118 : Cond.methodLink (pm_R 2) 118 yX2_passPairName ∈ lw_tbl := List.mem_of_getElem? (i := 702) rfl
set_option maxRecDepth 100000 in
theorem pm_ml_2_122 : Cond.methodLink (pm_R 2) 122 yX4_hasWord ∈ lw_tbl := List.mem_of_getElem? (i := 706) rfl
set_option maxRecDepth 100000 in
theorem pm_ml_2_138 : Cond.methodLink (pm_R 2) 138 yX2_readAlt ∈ lw_tbl := List.mem_of_getElem? (i := 714) rfl
set_option maxRecDepth 100000 in
theorem pm_ml_2_166 : Cond.methodLink (pm_R 2) 166 yX2_bindAlt ∈ lw_tbl := List.mem_of_getElem? (i := 730) rfl
set_option maxRecDepth 100000 in
theorem pm_ml_3_37 : Cond.methodLink (pm_R 3) 37 yX3_endOf ∈ lw_tbl := List.mem_of_getElem? (i := 1023) rfl
set_option maxRecDepth 100000 in
theorem pm_ml_3_44 : Cond.methodLink (pm_R 3) 44 yX3_clearResults ∈ lw_tbl := List.mem_of_getElem? (i := 957) rfl
set_option maxRecDepth 100000 in
theorem pm_ml_3_48 : Cond.methodLink (pm_R 3) 48 yX9_isCharter ∈ lw_tbl := List.mem_of_getElem? (i := 961) rfl
set_option maxRecDepth 100000 in
theorem pm_ml_3_55 : Cond.methodLink (pm_R 3) 55 yX3_offer ∈ lw_tbl := List.mem_of_getElem? (i := 965) rfl
set_option maxRecDepth 100000 in
theorem pm_ml_3_62 : Cond.methodLink (pm_R 3) 62 yX3_worthTo ∈ lw_tbl := List.mem_of_getElem? (i := 969) rfl
set_option maxRecDepth 100000 in
theorem pm_ml_3_69 : Cond.methodLink (pm_R 3) 69 yX3_isBribed ∈ lw_tbl := List.mem_of_getElem? (i := 973) rfl
set_option maxRecDepth 100000 in
theorem pm_ml_3_88 : Cond.methodLink (pm_R 3) 88 yX9_wordAt ∈ lw_tbl := List.mem_of_getElem? (i := 977) rfl
set_option maxRecDepth 100000 in
theorem pm_ml_3_94 : Cond.methodLink (pm_R 3) 94 yX3_meansMore ∈ lw_tbl := List.mem_of_getElem? (i := 1024) rfl
set_option maxRecDepth 100000 in
theorem pm_ml_3_99 : Cond.methodLink (pm_R 3) 99 yX3_sumOf ∈ lw_tbl := List.mem_of_getElem? (i := 996) rfl
set_option maxRecDepth 100000 in
theorem pm_ml_3_102 : Cond.methodLink (pm_R 3) 102 yX3_better ∈ lw_tbl := List.mem_of_getElem? (i := 999) rfl
set_option maxRecDepth 100000 in
theorem pm_ml_4_51 : Cond.methodLink (pm_R 4) 51 yJ7_fill_53178 ∈ lw_tbl := List.mem_of_getElem? (i := 640) rfl
set_option maxRecDepth 100000 in
theorem pm_ml_4_70 : Cond.methodLink (pm_R 4) 70 yX4_meaningBehind ∈ lw_tbl := List.mem_of_getElem? (i := 905) rfl
set_option maxRecDepth 100000 in
theorem pm_ml_4_74 : Cond.methodLink (pm_R 4) 74 yX4_sizeOfAlt ∈ lw_tbl := List.mem_of_getElem? (i := 1043) rfl
set_option maxRecDepth 100000 in
theorem pm_ml_4_78 : Cond.methodLink (pm_R 4) 78 yX4_rulesNextTo ∈ lw_tbl := List.mem_of_getElem? (i := 1051) rfl
set_option maxRecDepth 100000 in
theorem pm_ml_5_18 : Cond.methodLink (pm_R 5) 18 yX5_fillColumn ∈ lw_tbl := List.mem_of_getElem? (i := 803) rfl
set_option maxRecDepth 100000 in
theorem pm_ml_5_44 : Cond.methodLink (pm_R 5) 44 yX5_beginColumn ∈ lw_tbl := List.mem_of_getElem? (i := 807) rfl
set_option maxRecDepth 100000 in
theorem pm_ml_5_52 : Cond.methodLink (pm_R 5) 52 yX5_startsOfAlt ∈ lw_tbl := List.mem_of_getElem? (i := 812) rfl
set_option maxRecDepth 100000 in
theorem pm_ml_6_35 : Cond.methodLink (pm_R 6) 35 yX9_wordAt ∈ lw_tbl := List.mem_of_getElem? (i := 1139) rfl
set_option maxRecDepth 100000 in
theorem pm_ml_7_22 : Cond.methodLink (pm_R 7) 22 yX7_fillColumn ∈ lw_tbl := List.mem_of_getElem? (i := 885) rfl
set_option maxRecDepth 100000 in
theorem pm_ml_7_34 : Cond.methodLink (pm_R 7) 34 yX7_waysOfAlt ∈ lw_tbl := List.mem_of_getElem? (i := 889) rfl
set_option maxRecDepth 100000 in
theorem pm_ml_8_63 : Cond.methodLink (pm_R 8) 63 yX8_advance ∈ lw_tbl := List.mem_of_getElem? (i := 648) rfl
set_option maxRecDepth 100000 in
theorem pm_ml_8_72 : Cond.methodLink (pm_R 8) 72 yX8_takeLetters ∈ lw_tbl := List.mem_of_getElem? (i := 652) rfl
set_option maxRecDepth 100000 in
theorem pm_ml_8_75 : Cond.methodLink (pm_R 8) 75 yX8_takeDigits ∈ lw_tbl := List.mem_of_getElem? (i := 656) rfl
set_option maxRecDepth 100000 in
theorem pm_ml_8_78 : Cond.methodLink (pm_R 8) 78 yX8_refuse ∈ lw_tbl := List.mem_of_getElem? (i := 660) rfl
set_option maxRecDepth 100000 in
theorem pm_ml_9_47 : Cond.methodLink (pm_R 9) 47 yX9_addRoot ∈ lw_tbl := List.mem_of_getElem? (i := 921) rfl
set_option maxRecDepth 100000 in
theorem pm_ml_9_51 : Cond.methodLink (pm_R 9) 51 yX5_readBeginning ∈ lw_tbl := List.mem_of_getElem? (i := 926) rfl
set_option maxRecDepth 100000 in
theorem pm_ml_9_57 : Cond.methodLink (pm_R 9) 57 yX9_grow ∈ lw_tbl := List.mem_of_getElem? (i := 927) rfl
set_option maxRecDepth 100000 in
theorem pm_ml_9_64 : Cond.methodLink (pm_R 9) 64 yX4_meaningOf ∈ lw_tbl := List.mem_of_getElem? (i := 925) rfl
set_option maxRecDepth 100000 in
theorem pm_ml_9_68 : Cond.methodLink (pm_R 9) 68 yX5_nextWords ∈ lw_tbl := List.mem_of_getElem? (i := 931) rfl
set_option maxRecDepth 100000 in
theorem pm_ml_9_75 : Cond.methodLink (pm_R 9) 75 yX9_add ∈ lw_tbl := List.mem_of_getElem? (i := 932) rfl
set_option maxRecDepth 100000 in
theorem pm_ml_9_79 : Cond.methodLink (pm_R 9) 79 yX9_growBehind ∈ lw_tbl := List.mem_of_getElem? (i := 937) rfl
set_option maxRecDepth 100000 in
theorem pm_ml_9_83 : Cond.methodLink (pm_R 9) 83 yX5_goOn ∈ lw_tbl := List.mem_of_getElem? (i := 941) rfl
set_option maxRecDepth 100000 in
theorem pm_ml_9_87 : Cond.methodLink (pm_R 9) 87 yX4_meaningBehind ∈ lw_tbl := List.mem_of_getElem? (i := 936) rfl
set_option maxRecDepth 100000 in
theorem pm_ml_9_91 : Cond.methodLink (pm_R 9) 91 yX9_wordAt ∈ lw_tbl := List.mem_of_getElem? (i := 1072) rfl
set_option maxRecDepth 100000 in
theorem pm_ml_10_96 : Cond.methodLink (pm_R 10) 96 yX10_tapeNumber ∈ lw_tbl := List.mem_of_getElem? (i := 620) rfl
set_option maxRecDepth 100000 in
theorem pm_ml_10_100 : Cond.methodLink (pm_R 10) 100 yX2_readsInto ∈ lw_tbl := List.mem_of_getElem? (i := 632) rfl
set_option maxRecDepth 100000 in
theorem pm_ml_10_104 : Cond.methodLink (pm_R 10) 104 yX10_forgetOldPort ∈ lw_tbl := List.mem_of_getElem? (i := 734) rfl
set_option maxRecDepth 100000 in
theorem pm_ml_10_110 : Cond.methodLink (pm_R 10) 110 yX0_empty ∈ lw_tbl := List.mem_of_getElem? (i := 738) rfl
set_option maxRecDepth 100000 in
theorem pm_ml_10_117 : Cond.methodLink (pm_R 10) 117 yX7_forget ∈ lw_tbl := List.mem_of_getElem? (i := 746) rfl
set_option maxRecDepth 100000 in
theorem pm_ml_10_120 : Cond.methodLink (pm_R 10) 120 yX9_forget ∈ lw_tbl := List.mem_of_getElem? (i := 750) rfl
set_option maxRecDepth 100000 in
theorem pm_ml_10_121 : Cond.methodLink (pm_R 10) 121 yX3_forget ∈ lw_tbl := List.mem_of_getElem? (i := 754) rfl
set_option maxRecDepth 100000 in
theorem pm_ml_10_143 : Cond.methodLink (pm_R 10) 143 yX4_hasWord ∈ lw_tbl := List.mem_of_getElem? (i := 766) rfl
set_option maxRecDepth 100000 in
theorem pm_ml_10_147 : Cond.methodLink (pm_R 10) 147 yX10_isGuild ∈ lw_tbl := List.mem_of_getElem? (i := 767) rfl
set_option maxRecDepth 100000 in
theorem pm_ml_10_157 : Cond.methodLink (pm_R 10) 157 yX4_hasPlace ∈ lw_tbl := List.mem_of_getElem? (i := 779) rfl
set_option maxRecDepth 100000 in
theorem pm_ml_10_160 : Cond.methodLink (pm_R 10) 160 yX10_ownerInEarnest ∈ lw_tbl := List.mem_of_getElem? (i := 783) rfl
set_option maxRecDepth 100000 in
theorem pm_ml_10_167 : Cond.methodLink (pm_R 10) 167 yX4_turnAt ∈ lw_tbl := List.mem_of_getElem? (i := 787) rfl
set_option maxRecDepth 100000 in
theorem pm_ml_10_170 : Cond.methodLink (pm_R 10) 170 yX10_nextInEarnest ∈ lw_tbl := List.mem_of_getElem? (i := 795) rfl
set_option maxRecDepth 100000 in
theorem pm_ml_10_174 : Cond.methodLink (pm_R 10) 174 yX0_putWord ∈ lw_tbl := List.mem_of_getElem? (i := 824) rfl
set_option maxRecDepth 100000 in
theorem pm_ml_10_180 : Cond.methodLink (pm_R 10) 180 yX10_isUnwritten ∈ lw_tbl := List.mem_of_getElem? (i := 844) rfl
set_option maxRecDepth 100000 in
theorem pm_ml_10_183 : Cond.methodLink (pm_R 10) 183 yX0_putSale ∈ lw_tbl := List.mem_of_getElem? (i := 848) rfl
set_option maxRecDepth 100000 in
theorem pm_ml_10_187 : Cond.methodLink (pm_R 10) 187 yX0_takeBack ∈ lw_tbl := List.mem_of_getElem? (i := 856) rfl
set_option maxRecDepth 100000 in
theorem pm_ml_10_191 : Cond.methodLink (pm_R 10) 191 yX0_doAgain ∈ lw_tbl := List.mem_of_getElem? (i := 864) rfl
set_option maxRecDepth 100000 in
theorem pm_ml_10_197 : Cond.methodLink (pm_R 10) 197 yX5_readBeginning ∈ lw_tbl := List.mem_of_getElem? (i := 799) rfl
set_option maxRecDepth 100000 in
theorem pm_ml_10_201 : Cond.methodLink (pm_R 10) 201 yX5_nextWords ∈ lw_tbl := List.mem_of_getElem? (i := 817) rfl
set_option maxRecDepth 100000 in
theorem pm_ml_10_205 : Cond.methodLink (pm_R 10) 205 yX7_countOf ∈ lw_tbl := List.mem_of_getElem? (i := 881) rfl
set_option maxRecDepth 100000 in
theorem pm_ml_10_209 : Cond.methodLink (pm_R 10) 209 yX4_meaningOf ∈ lw_tbl := List.mem_of_getElem? (i := 901) rfl
set_option maxRecDepth 100000 in
theorem pm_ml_10_213 : Cond.methodLink (pm_R 10) 213 yX10_growEarnest ∈ lw_tbl := List.mem_of_getElem? (i := 913) rfl
set_option maxRecDepth 100000 in
theorem pm_ml_10_217 : Cond.methodLink (pm_R 10) 217 yX9_hasCharters ∈ lw_tbl := List.mem_of_getElem? (i := 945) rfl
set_option maxRecDepth 100000 in
theorem pm_ml_10_220 : Cond.methodLink (pm_R 10) 220 yX10_ownAsInEarnest ∈ lw_tbl := List.mem_of_getElem? (i := 949) rfl
set_option maxRecDepth 100000 in
theorem pm_ml_10_223 : Cond.methodLink (pm_R 10) 223 yX3_endOf ∈ lw_tbl := List.mem_of_getElem? (i := 953) rfl
set_option maxRecDepth 100000 in
theorem pm_ml_10_227 : Cond.methodLink (pm_R 10) 227 yX10_lay ∈ lw_tbl := List.mem_of_getElem? (i := 982) rfl
set_option maxRecDepth 100000 in
theorem pm_ml_10_234 : Cond.methodLink (pm_R 10) 234 yX9_growFrom ∈ lw_tbl := List.mem_of_getElem? (i := 917) rfl
set_option maxRecDepth 100000 in
theorem pm_ml_10_244 : Cond.methodLink (pm_R 10) 244 yX9_wordAt ∈ lw_tbl := List.mem_of_getElem? (i := 986) rfl
set_option maxRecDepth 100000 in
theorem pm_ml_10_248 : Cond.methodLink (pm_R 10) 248 yX3_heldBy ∈ lw_tbl := List.mem_of_getElem? (i := 991) rfl
set_option maxRecDepth 100000 in
theorem pm_ml_10_252 : Cond.methodLink (pm_R 10) 252 yX10_sixShares ∈ lw_tbl := List.mem_of_getElem? (i := 1009) rfl
set_option maxRecDepth 100000 in
theorem pm_ml_10_258 : Cond.methodLink (pm_R 10) 258 yX3_firstSwap ∈ lw_tbl := List.mem_of_getElem? (i := 1019) rfl
set_option maxRecDepth 100000 in
theorem pm_ml_10_261 : Cond.methodLink (pm_R 10) 261 yX3_leastBribe ∈ lw_tbl := List.mem_of_getElem? (i := 1031) rfl
set_option maxRecDepth 100000 in
theorem pm_ml_10_265 : Cond.methodLink (pm_R 10) 265 yX4_findShortest ∈ lw_tbl := List.mem_of_getElem? (i := 1039) rfl
set_option maxRecDepth 100000 in
theorem pm_ml_10_269 : Cond.methodLink (pm_R 10) 269 yX4_rulesOfUse ∈ lw_tbl := List.mem_of_getElem? (i := 1047) rfl
set_option maxRecDepth 100000 in
theorem pm_ml_10_276 : Cond.methodLink (pm_R 10) 276 yX10_growWhole ∈ lw_tbl := List.mem_of_getElem? (i := 1063) rfl
set_option maxRecDepth 100000 in
theorem pm_ml_10_283 : Cond.methodLink (pm_R 10) 283 yX9_isCharter ∈ lw_tbl := List.mem_of_getElem? (i := 1067) rfl
set_option maxRecDepth 100000 in
theorem pm_ml_10_286 : Cond.methodLink (pm_R 10) 286 yX9_wordsInto ∈ lw_tbl := List.mem_of_getElem? (i := 1068) rfl
set_option maxRecDepth 100000 in
theorem pm_ml_10_290 : Cond.methodLink (pm_R 10) 290 yX3_findLotEnds ∈ lw_tbl := List.mem_of_getElem? (i := 1077) rfl
set_option maxRecDepth 100000 in
theorem pm_ml_10_297 : Cond.methodLink (pm_R 10) 297 yX10_growHoles ∈ lw_tbl := List.mem_of_getElem? (i := 1090) rfl
set_option maxRecDepth 100000 in
theorem pm_ml_10_300 : Cond.methodLink (pm_R 10) 300 yX0_rowWithout ∈ lw_tbl := List.mem_of_getElem? (i := 1102) rfl
set_option maxRecDepth 100000 in
theorem pm_ml_10_304 : Cond.methodLink (pm_R 10) 304 yX6_tell ∈ lw_tbl := List.mem_of_getElem? (i := 1114) rfl
set_option maxRecDepth 100000 in
theorem pm_ml_10_308 : Cond.methodLink (pm_R 10) 308 yX6_takeBack ∈ lw_tbl := List.mem_of_getElem? (i := 1122) rfl
set_option maxRecDepth 100000 in
theorem pm_ml_10_314 : Cond.methodLink (pm_R 10) 314 yX6_agree ∈ lw_tbl := List.mem_of_getElem? (i := 1135) rfl
set_option maxRecDepth 100000 in
theorem pm_ml_10_318 : Cond.methodLink (pm_R 10) 318 yX1_keep ∈ lw_tbl := List.mem_of_getElem? (i := 1144) rfl
set_option maxRecDepth 100000 in
theorem pm_ml_10_322 : Cond.methodLink (pm_R 10) 322 yX1_giveBack ∈ lw_tbl := List.mem_of_getElem? (i := 1153) rfl
set_option maxRecDepth 100000 in
theorem pm_ml_11_158 : Cond.methodLink (pm_R 11) 158 yX11_clearBank ∈ lw_tbl := List.mem_of_getElem? (i := 1168) rfl
set_option maxRecDepth 100000 in
theorem pm_ml_11_161 : Cond.methodLink (pm_R 11) 161 yX11_begin ∈ lw_tbl := List.mem_of_getElem? (i := 1172) rfl
set_option maxRecDepth 100000 in
theorem pm_ml_11_188 : Cond.methodLink (pm_R 11) 188 yX11_sign ∈ lw_tbl := List.mem_of_getElem? (i := 1402) rfl
set_option maxRecDepth 100000 in
theorem pm_ml_11_195 : Cond.methodLink (pm_R 11) 195 yX11_isLetter ∈ lw_tbl := List.mem_of_getElem? (i := 1406) rfl
set_option maxRecDepth 100000 in
theorem pm_ml_11_203 : Cond.methodLink (pm_R 11) 203 yX11_isKept ∈ lw_tbl := List.mem_of_getElem? (i := 1409) rfl
set_option maxRecDepth 100000 in
theorem pm_ml_11_207 : Cond.methodLink (pm_R 11) 207 yX11_isDigit ∈ lw_tbl := List.mem_of_getElem? (i := 1418) rfl
set_option maxRecDepth 100000 in
theorem pm_ml_11_213 : Cond.methodLink (pm_R 11) 213 yX11_fails ∈ lw_tbl := List.mem_of_getElem? (i := 1441) rfl
set_option maxRecDepth 100000 in
theorem pm_ml_11_217 : Cond.methodLink (pm_R 11) 217 yX11_isGood ∈ lw_tbl := List.mem_of_getElem? (i := 1421) rfl
set_option maxRecDepth 100000 in
theorem pm_ml_11_221 : Cond.methodLink (pm_R 11) 221 yX11_goOn ∈ lw_tbl := List.mem_of_getElem? (i := 1398) rfl
set_option maxRecDepth 100000 in
theorem pm_ml_11_224 : Cond.methodLink (pm_R 11) 224 yX11_misplaced ∈ lw_tbl := List.mem_of_getElem? (i := 1437) rfl
set_option maxRecDepth 100000 in
theorem pm_ml_11_236 : Cond.methodLink (pm_R 11) 236 yX11_readLine ∈ lw_tbl := List.mem_of_getElem? (i := 1425) rfl
set_option maxRecDepth 100000 in
theorem pm_ml_11_239 : Cond.methodLink (pm_R 11) 239 yX11_settle ∈ lw_tbl := List.mem_of_getElem? (i := 1493) rfl
set_option maxRecDepth 100000 in
theorem pm_ml_11_251 : Cond.methodLink (pm_R 11) 251 yX11_isWord ∈ lw_tbl := List.mem_of_getElem? (i := 1433) rfl
set_option maxRecDepth 100000 in
theorem pm_ml_11_254 : Cond.methodLink (pm_R 11) 254 yX11_isFull ∈ lw_tbl := List.mem_of_getElem? (i := 1429) rfl
set_option maxRecDepth 100000 in
theorem pm_ml_11_257 : Cond.methodLink (pm_R 11) 257 yX11_readWord ∈ lw_tbl := List.mem_of_getElem? (i := 1445) rfl
set_option maxRecDepth 100000 in
theorem pm_ml_11_260 : Cond.methodLink (pm_R 11) 260 yX11_readPair ∈ lw_tbl := List.mem_of_getElem? (i := 1465) rfl
set_option maxRecDepth 100000 in
theorem pm_ml_11_263 : Cond.methodLink (pm_R 11) 263 yX11_readRule ∈ lw_tbl := List.mem_of_getElem? (i := 1473) rfl
set_option maxRecDepth 100000 in
theorem pm_ml_11_266 : Cond.methodLink (pm_R 11) 266 yX11_numeral ∈ lw_tbl := List.mem_of_getElem? (i := 1461) rfl
set_option maxRecDepth 100000 in
theorem pm_ml_11_270 : Cond.methodLink (pm_R 11) 270 yX11_readTurns ∈ lw_tbl := List.mem_of_getElem? (i := 1489) rfl
set_option maxRecDepth 100000 in
theorem pm_ml_11_273 : Cond.methodLink (pm_R 11) 273 yX11_isSignHere ∈ lw_tbl := List.mem_of_getElem? (i := 1477) rfl
set_option maxRecDepth 100000 in
theorem pm_ml_11_276 : Cond.methodLink (pm_R 11) 276 yX11_must ∈ lw_tbl := List.mem_of_getElem? (i := 1481) rfl
set_option maxRecDepth 100000 in
theorem pm_ml_11_280 : Cond.methodLink (pm_R 11) 280 yX11_wordOf ∈ lw_tbl := List.mem_of_getElem? (i := 1453) rfl
set_option maxRecDepth 100000 in
theorem pm_ml_11_284 : Cond.methodLink (pm_R 11) 284 yX11_ruleOf ∈ lw_tbl := List.mem_of_getElem? (i := 1457) rfl
set_option maxRecDepth 100000 in
theorem pm_ml_11_287 : Cond.methodLink (pm_R 11) 287 yX11_fresh ∈ lw_tbl := List.mem_of_getElem? (i := 1449) rfl
set_option maxRecDepth 100000 in
theorem pm_ml_11_291 : Cond.methodLink (pm_R 11) 291 yX11_known ∈ lw_tbl := List.mem_of_getElem? (i := 1469) rfl
set_option maxRecDepth 100000 in
theorem pm_ml_11_295 : Cond.methodLink (pm_R 11) 295 yX11_readAlt ∈ lw_tbl := List.mem_of_getElem? (i := 1485) rfl
set_option maxRecDepth 100000 in
theorem pm_ml_11_298 : Cond.methodLink (pm_R 11) 298 yX11_isIn ∈ lw_tbl := List.mem_of_getElem? (i := 1509) rfl
set_option maxRecDepth 100000 in
theorem pm_ml_11_302 : Cond.methodLink (pm_R 11) 302 yX11_longOf ∈ lw_tbl := List.mem_of_getElem? (i := 1532) rfl
set_option maxRecDepth 100000 in
theorem pm_ml_11_305 : Cond.methodLink (pm_R 11) 305 yX11_isWordOf ∈ lw_tbl := List.mem_of_getElem? (i := 1505) rfl
set_option maxRecDepth 100000 in
theorem pm_ml_11_308 : Cond.methodLink (pm_R 11) 308 yX11_isGuild ∈ lw_tbl := List.mem_of_getElem? (i := 1512) rfl
set_option maxRecDepth 100000 in
theorem pm_ml_11_312 : Cond.methodLink (pm_R 11) 312 yX11_pairOf ∈ lw_tbl := List.mem_of_getElem? (i := 1520) rfl
set_option maxRecDepth 100000 in
theorem pm_ml_11_316 : Cond.methodLink (pm_R 11) 316 yX11_endsBy ∈ lw_tbl := List.mem_of_getElem? (i := 1568) rfl
set_option maxRecDepth 100000 in
theorem pm_ml_11_319 : Cond.methodLink (pm_R 11) 319 yX11_doesRead ∈ lw_tbl := List.mem_of_getElem? (i := 1564) rfl
set_option maxRecDepth 100000 in
theorem pm_ml_11_322 : Cond.methodLink (pm_R 11) 322 yX11_layEnds ∈ lw_tbl := List.mem_of_getElem? (i := 1560) rfl
set_option maxRecDepth 100000 in
theorem pm_ml_11_326 : Cond.methodLink (pm_R 11) 326 yX11_waysBy ∈ lw_tbl := List.mem_of_getElem? (i := 1580) rfl
set_option maxRecDepth 100000 in
theorem pm_ml_11_330 : Cond.methodLink (pm_R 11) 330 yX11_atMost ∈ lw_tbl := List.mem_of_getElem? (i := 1584) rfl
set_option maxRecDepth 100000 in
theorem pm_ml_11_345 : Cond.methodLink (pm_R 11) 345 yX11_toldTurn ∈ lw_tbl := List.mem_of_getElem? (i := 1176) rfl
set_option maxRecDepth 100000 in
theorem pm_ml_11_348 : Cond.methodLink (pm_R 11) 348 yX11_isRead ∈ lw_tbl := List.mem_of_getElem? (i := 1556) rfl
set_option maxRecDepth 100000 in
theorem pm_ml_11_351 : Cond.methodLink (pm_R 11) 351 yX11_tryRow ∈ lw_tbl := List.mem_of_getElem? (i := 1548) rfl
set_option maxRecDepth 100000 in
theorem pm_ml_11_354 : Cond.methodLink (pm_R 11) 354 yX11_canGoOn ∈ lw_tbl := List.mem_of_getElem? (i := 1552) rfl
set_option maxRecDepth 100000 in
theorem pm_ml_11_357 : Cond.methodLink (pm_R 11) 357 yX11_isPlace ∈ lw_tbl := List.mem_of_getElem? (i := 1528) rfl
set_option maxRecDepth 100000 in
theorem pm_ml_11_360 : Cond.methodLink (pm_R 11) 360 yX11_canCome ∈ lw_tbl := List.mem_of_getElem? (i := 1544) rfl
set_option maxRecDepth 100000 in
theorem pm_ml_11_363 : Cond.methodLink (pm_R 11) 363 yX11_readingsOf ∈ lw_tbl := List.mem_of_getElem? (i := 1576) rfl
set_option maxRecDepth 100000 in
theorem pm_ml_11_367 : Cond.methodLink (pm_R 11) 367 yX11_meansOf ∈ lw_tbl := List.mem_of_getElem? (i := 1592) rfl
set_option maxRecDepth 100000 in
theorem pm_ml_11_370 : Cond.methodLink (pm_R 11) 370 yX11_keepAct ∈ lw_tbl := List.mem_of_getElem? (i := 1600) rfl
set_option maxRecDepth 100000 in
theorem pm_ml_11_373 : Cond.methodLink (pm_R 11) 373 yX11_exchange ∈ lw_tbl := List.mem_of_getElem? (i := 1612) rfl
set_option maxRecDepth 100000 in
theorem pm_ml_11_380 : Cond.methodLink (pm_R 11) 380 yX11_wordIn ∈ lw_tbl := List.mem_of_getElem? (i := 1678) rfl
set_option maxRecDepth 100000 in
theorem pm_ml_11_383 : Cond.methodLink (pm_R 11) 383 yX11_keyOf ∈ lw_tbl := List.mem_of_getElem? (i := 1640) rfl
set_option maxRecDepth 100000 in
theorem pm_ml_11_396 : Cond.methodLink (pm_R 11) 396 yX11_isOnPath ∈ lw_tbl := List.mem_of_getElem? (i := 1646) rfl
set_option maxRecDepth 100000 in
theorem pm_ml_11_399 : Cond.methodLink (pm_R 11) 399 yX11_takeCharter ∈ lw_tbl := List.mem_of_getElem? (i := 1650) rfl
set_option maxRecDepth 100000 in
theorem pm_ml_11_402 : Cond.methodLink (pm_R 11) 402 yX11_packed ∈ lw_tbl := List.mem_of_getElem? (i := 1654) rfl
set_option maxRecDepth 100000 in
theorem pm_ml_11_405 : Cond.methodLink (pm_R 11) 405 yX11_layList ∈ lw_tbl := List.mem_of_getElem? (i := 1636) rfl
set_option maxRecDepth 100000 in
theorem pm_ml_11_418 : Cond.methodLink (pm_R 11) 418 yX11_gain ∈ lw_tbl := List.mem_of_getElem? (i := 1674) rfl
set_option maxRecDepth 100000 in
theorem pm_ml_11_421 : Cond.methodLink (pm_R 11) 421 yX11_gainOf ∈ lw_tbl := List.mem_of_getElem? (i := 1682) rfl
set_option maxRecDepth 100000 in
theorem pm_ml_11_424 : Cond.methodLink (pm_R 11) 424 yX11_areGrouped ∈ lw_tbl := List.mem_of_getElem? (i := 1666) rfl
set_option maxRecDepth 100000 in
theorem pm_ml_11_427 : Cond.methodLink (pm_R 11) 427 yX11_isBetter ∈ lw_tbl := List.mem_of_getElem? (i := 1670) rfl
set_option maxRecDepth 100000 in
theorem pm_ml_11_431 : Cond.methodLink (pm_R 11) 431 yX11_orderTurn ∈ lw_tbl := List.mem_of_getElem? (i := 1702) rfl
set_option maxRecDepth 100000 in
theorem pm_ml_11_434 : Cond.methodLink (pm_R 11) 434 yX11_layFromRow ∈ lw_tbl := List.mem_of_getElem? (i := 1632) rfl
set_option maxRecDepth 100000 in
theorem pm_ml_11_437 : Cond.methodLink (pm_R 11) 437 yX11_turnsNow ∈ lw_tbl := List.mem_of_getElem? (i := 1658) rfl
set_option maxRecDepth 100000 in
theorem pm_ml_11_440 : Cond.methodLink (pm_R 11) 440 yX11_plays ∈ lw_tbl := List.mem_of_getElem? (i := 1662) rfl
set_option maxRecDepth 100000 in
theorem pm_ml_11_443 : Cond.methodLink (pm_R 11) 443 yX11_lay ∈ lw_tbl := List.mem_of_getElem? (i := 1686) rfl
set_option maxRecDepth 100000 in
theorem pm_ml_11_446 : Cond.methodLink (pm_R 11) 446 yX11_heldBy ∈ lw_tbl := List.mem_of_getElem? (i := 1694) rfl
set_option maxRecDepth 100000 in
theorem pm_ml_11_449 : Cond.methodLink (pm_R 11) 449 yX11_common ∈ lw_tbl := List.mem_of_getElem? (i := 1705) rfl
set_option maxRecDepth 100000 in
theorem pm_ml_11_452 : Cond.methodLink (pm_R 11) 452 yX11_layFromNone ∈ lw_tbl := List.mem_of_getElem? (i := 1720) rfl
set_option maxRecDepth 100000 in
theorem pm_ml_11_455 : Cond.methodLink (pm_R 11) 455 yX11_turnsByOrder ∈ lw_tbl := List.mem_of_getElem? (i := 1724) rfl
set_option maxRecDepth 100000 in
theorem pm_ml_11_458 : Cond.methodLink (pm_R 11) 458 yX11_sumOf ∈ lw_tbl := List.mem_of_getElem? (i := 1736) rfl
set_option maxRecDepth 100000 in
theorem pm_ml_11_462 : Cond.methodLink (pm_R 11) 462 yX11_layShortest ∈ lw_tbl := List.mem_of_getElem? (i := 1732) rfl
set_option maxRecDepth 100000 in
theorem pm_ml_11_465 : Cond.methodLink (pm_R 11) 465 yX11_unpack ∈ lw_tbl := List.mem_of_getElem? (i := 1749) rfl
set_option maxRecDepth 100000 in
theorem pm_ml_11_470 : Cond.methodLink (pm_R 11) 470 yX11_tryWithout ∈ lw_tbl := List.mem_of_getElem? (i := 1770) rfl
set_option maxRecDepth 100000 in
theorem pm_ml_11_477 : Cond.methodLink (pm_R 11) 477 yX11_isSo ∈ lw_tbl := List.mem_of_getElem? (i := 1791) rfl
set_option maxRecDepth 100000 in
theorem pm_ml_14_13 : Cond.methodLink (pm_R 14) 13 yX10_feed ∈ lw_tbl := List.mem_of_getElem? (i := 616) rfl
set_option maxRecDepth 100000 in
theorem pm_ml_14_17 : Cond.methodLink (pm_R 14) 17 yX11_feed ∈ lw_tbl := List.mem_of_getElem? (i := 1807) rfl
set_option maxRecDepth 100000 in
theorem pm_ml_14_18 : Cond.methodLink (pm_R 14) 18 yX10_end ∈ lw_tbl := List.mem_of_getElem? (i := 624) rfl
set_option maxRecDepth 100000 in
theorem pm_ml_14_22 : Cond.methodLink (pm_R 14) 22 yX11_end ∈ lw_tbl := List.mem_of_getElem? (i := 1811) rfl
set_option maxRecDepth 100000 in
theorem pm_ml_14_23 : Cond.methodLink (pm_R 14) 23 yX10_port ∈ lw_tbl := List.mem_of_getElem? (i := 628) rfl
set_option maxRecDepth 100000 in
theorem pm_ml_14_27 : Cond.methodLink (pm_R 14) 27 yX11_port ∈ lw_tbl := List.mem_of_getElem? (i := 1394) rfl
set_option maxRecDepth 100000 in
theorem pm_ml_14_28 : Cond.methodLink (pm_R 14) 28 yX10_fault ∈ lw_tbl := List.mem_of_getElem? (i := 758) rfl
set_option maxRecDepth 100000 in
theorem pm_ml_14_31 : Cond.methodLink (pm_R 14) 31 yX11_fault ∈ lw_tbl := List.mem_of_getElem? (i := 1497) rfl
set_option maxRecDepth 100000 in
theorem pm_ml_14_32 : Cond.methodLink (pm_R 14) 32 yX10_worth ∈ lw_tbl := List.mem_of_getElem? (i := 762) rfl
set_option maxRecDepth 100000 in
theorem pm_ml_14_36 : Cond.methodLink (pm_R 14) 36 yX11_worth ∈ lw_tbl := List.mem_of_getElem? (i := 1501) rfl
set_option maxRecDepth 100000 in
theorem pm_ml_14_37 : Cond.methodLink (pm_R 14) 37 yX10_behind ∈ lw_tbl := List.mem_of_getElem? (i := 771) rfl
set_option maxRecDepth 100000 in
theorem pm_ml_14_41 : Cond.methodLink (pm_R 14) 41 yX11_behind ∈ lw_tbl := List.mem_of_getElem? (i := 1516) rfl
set_option maxRecDepth 100000 in
theorem pm_ml_14_42 : Cond.methodLink (pm_R 14) 42 yX10_turn ∈ lw_tbl := List.mem_of_getElem? (i := 775) rfl
set_option maxRecDepth 100000 in
theorem pm_ml_14_45 : Cond.methodLink (pm_R 14) 45 yX11_turn ∈ lw_tbl := List.mem_of_getElem? (i := 1524) rfl
set_option maxRecDepth 100000 in
theorem pm_ml_14_46 : Cond.methodLink (pm_R 14) 46 yX10_write ∈ lw_tbl := List.mem_of_getElem? (i := 791) rfl
set_option maxRecDepth 100000 in
theorem pm_ml_14_49 : Cond.methodLink (pm_R 14) 49 yX11_write ∈ lw_tbl := List.mem_of_getElem? (i := 1596) rfl
set_option maxRecDepth 100000 in
theorem pm_ml_14_50 : Cond.methodLink (pm_R 14) 50 yX10_sell ∈ lw_tbl := List.mem_of_getElem? (i := 840) rfl
set_option maxRecDepth 100000 in
theorem pm_ml_14_53 : Cond.methodLink (pm_R 14) 53 yX11_sell ∈ lw_tbl := List.mem_of_getElem? (i := 1604) rfl
set_option maxRecDepth 100000 in
theorem pm_ml_14_54 : Cond.methodLink (pm_R 14) 54 yX10_undo ∈ lw_tbl := List.mem_of_getElem? (i := 852) rfl
set_option maxRecDepth 100000 in
theorem pm_ml_14_58 : Cond.methodLink (pm_R 14) 58 yX11_undo ∈ lw_tbl := List.mem_of_getElem? (i := 1608) rfl
set_option maxRecDepth 100000 in
theorem pm_ml_14_59 : Cond.methodLink (pm_R 14) 59 yX10_redo ∈ lw_tbl := List.mem_of_getElem? (i := 860) rfl
set_option maxRecDepth 100000 in
theorem pm_ml_14_62 : Cond.methodLink (pm_R 14) 62 yX11_redo ∈ lw_tbl := List.mem_of_getElem? (i := 1616) rfl
set_option maxRecDepth 100000 in
theorem pm_ml_14_63 : Cond.methodLink (pm_R 14) 63 yX10_wipe ∈ lw_tbl := List.mem_of_getElem? (i := 865) rfl
set_option maxRecDepth 100000 in
theorem pm_ml_14_66 : Cond.methodLink (pm_R 14) 66 yX11_wipe ∈ lw_tbl := List.mem_of_getElem? (i := 1620) rfl
set_option maxRecDepth 100000 in
theorem pm_ml_14_67 : Cond.methodLink (pm_R 14) 67 yX10_word ∈ lw_tbl := List.mem_of_getElem? (i := 869) rfl
set_option maxRecDepth 100000 in
theorem pm_ml_14_70 : Cond.methodLink (pm_R 14) 70 yX11_word ∈ lw_tbl := List.mem_of_getElem? (i := 1536) rfl
set_option maxRecDepth 100000 in
theorem pm_ml_14_71 : Cond.methodLink (pm_R 14) 71 yX10_next ∈ lw_tbl := List.mem_of_getElem? (i := 873) rfl
set_option maxRecDepth 100000 in
theorem pm_ml_14_74 : Cond.methodLink (pm_R 14) 74 yX11_next ∈ lw_tbl := List.mem_of_getElem? (i := 1540) rfl
set_option maxRecDepth 100000 in
theorem pm_ml_14_75 : Cond.methodLink (pm_R 14) 75 yX10_readings ∈ lw_tbl := List.mem_of_getElem? (i := 877) rfl
set_option maxRecDepth 100000 in
theorem pm_ml_14_78 : Cond.methodLink (pm_R 14) 78 yX11_readings ∈ lw_tbl := List.mem_of_getElem? (i := 1572) rfl
set_option maxRecDepth 100000 in
theorem pm_ml_14_79 : Cond.methodLink (pm_R 14) 79 yX10_means ∈ lw_tbl := List.mem_of_getElem? (i := 897) rfl
set_option maxRecDepth 100000 in
theorem pm_ml_14_82 : Cond.methodLink (pm_R 14) 82 yX11_means ∈ lw_tbl := List.mem_of_getElem? (i := 1588) rfl
set_option maxRecDepth 100000 in
theorem pm_ml_14_83 : Cond.methodLink (pm_R 14) 83 yX10_written ∈ lw_tbl := List.mem_of_getElem? (i := 909) rfl
set_option maxRecDepth 100000 in
theorem pm_ml_14_86 : Cond.methodLink (pm_R 14) 86 yX11_written ∈ lw_tbl := List.mem_of_getElem? (i := 1628) rfl
set_option maxRecDepth 100000 in
theorem pm_ml_14_87 : Cond.methodLink (pm_R 14) 87 yX10_held ∈ lw_tbl := List.mem_of_getElem? (i := 987) rfl
set_option maxRecDepth 100000 in
theorem pm_ml_14_90 : Cond.methodLink (pm_R 14) 90 yX11_held ∈ lw_tbl := List.mem_of_getElem? (i := 1690) rfl
set_option maxRecDepth 100000 in
theorem pm_ml_14_91 : Cond.methodLink (pm_R 14) 91 yX10_share ∈ lw_tbl := List.mem_of_getElem? (i := 1005) rfl
set_option maxRecDepth 100000 in
theorem pm_ml_14_94 : Cond.methodLink (pm_R 14) 94 yX11_share ∈ lw_tbl := List.mem_of_getElem? (i := 1698) rfl
set_option maxRecDepth 100000 in
theorem pm_ml_14_95 : Cond.methodLink (pm_R 14) 95 yX10_swap ∈ lw_tbl := List.mem_of_getElem? (i := 1015) rfl
set_option maxRecDepth 100000 in
theorem pm_ml_14_98 : Cond.methodLink (pm_R 14) 98 yX11_swap ∈ lw_tbl := List.mem_of_getElem? (i := 1708) rfl
set_option maxRecDepth 100000 in
theorem pm_ml_14_99 : Cond.methodLink (pm_R 14) 99 yX10_bribe ∈ lw_tbl := List.mem_of_getElem? (i := 1027) rfl
set_option maxRecDepth 100000 in
theorem pm_ml_14_102 : Cond.methodLink (pm_R 14) 102 yX11_bribe ∈ lw_tbl := List.mem_of_getElem? (i := 1712) rfl
set_option maxRecDepth 100000 in
theorem pm_ml_14_103 : Cond.methodLink (pm_R 14) 103 yX10_used ∈ lw_tbl := List.mem_of_getElem? (i := 1035) rfl
set_option maxRecDepth 100000 in
theorem pm_ml_14_106 : Cond.methodLink (pm_R 14) 106 yX11_used ∈ lw_tbl := List.mem_of_getElem? (i := 1728) rfl
set_option maxRecDepth 100000 in
theorem pm_ml_14_107 : Cond.methodLink (pm_R 14) 107 yX10_shortest ∈ lw_tbl := List.mem_of_getElem? (i := 1055) rfl
set_option maxRecDepth 100000 in
theorem pm_ml_14_110 : Cond.methodLink (pm_R 14) 110 yX11_shortest ∈ lw_tbl := List.mem_of_getElem? (i := 1741) rfl
set_option maxRecDepth 100000 in
theorem pm_ml_14_111 : Cond.methodLink (pm_R 14) 111 yX10_doubtful ∈ lw_tbl := List.mem_of_getElem? (i := 1059) rfl
set_option maxRecDepth 100000 in
theorem pm_ml_14_114 : Cond.methodLink (pm_R 14) 114 yX11_doubtful ∈ lw_tbl := List.mem_of_getElem? (i := 1745) rfl
set_option maxRecDepth 100000 in
theorem pm_ml_14_115 : Cond.methodLink (pm_R 14) 115 yX10_lots ∈ lw_tbl := List.mem_of_getElem? (i := 1073) rfl
set_option maxRecDepth 100000 in
theorem pm_ml_14_118 : Cond.methodLink (pm_R 14) 118 yX11_lots ∈ lw_tbl := List.mem_of_getElem? (i := 1716) rfl
set_option maxRecDepth 100000 in
theorem pm_ml_14_119 : Cond.methodLink (pm_R 14) 119 yX10_hole ∈ lw_tbl := List.mem_of_getElem? (i := 1082) rfl
set_option maxRecDepth 100000 in
theorem pm_ml_14_123 : Cond.methodLink (pm_R 14) 123 yX11_hole ∈ lw_tbl := List.mem_of_getElem? (i := 1754) rfl
set_option maxRecDepth 100000 in
theorem pm_ml_14_124 : Cond.methodLink (pm_R 14) 124 yX10_fit ∈ lw_tbl := List.mem_of_getElem? (i := 1086) rfl
set_option maxRecDepth 100000 in
theorem pm_ml_14_127 : Cond.methodLink (pm_R 14) 127 yX11_fit ∈ lw_tbl := List.mem_of_getElem? (i := 1758) rfl
set_option maxRecDepth 100000 in
theorem pm_ml_14_128 : Cond.methodLink (pm_R 14) 128 yX10_best ∈ lw_tbl := List.mem_of_getElem? (i := 1094) rfl
set_option maxRecDepth 100000 in
theorem pm_ml_14_131 : Cond.methodLink (pm_R 14) 131 yX11_best ∈ lw_tbl := List.mem_of_getElem? (i := 1762) rfl
set_option maxRecDepth 100000 in
theorem pm_ml_14_132 : Cond.methodLink (pm_R 14) 132 yX10_struck ∈ lw_tbl := List.mem_of_getElem? (i := 1098) rfl
set_option maxRecDepth 100000 in
theorem pm_ml_14_135 : Cond.methodLink (pm_R 14) 135 yX11_struck ∈ lw_tbl := List.mem_of_getElem? (i := 1766) rfl
set_option maxRecDepth 100000 in
theorem pm_ml_14_136 : Cond.methodLink (pm_R 14) 136 yX10_lies ∈ lw_tbl := List.mem_of_getElem? (i := 1106) rfl
set_option maxRecDepth 100000 in
theorem pm_ml_14_139 : Cond.methodLink (pm_R 14) 139 yX11_lies ∈ lw_tbl := List.mem_of_getElem? (i := 1624) rfl
set_option maxRecDepth 100000 in
theorem pm_ml_14_140 : Cond.methodLink (pm_R 14) 140 yX10_seen ∈ lw_tbl := List.mem_of_getElem? (i := 1110) rfl
set_option maxRecDepth 100000 in
theorem pm_ml_14_144 : Cond.methodLink (pm_R 14) 144 yX11_seen ∈ lw_tbl := List.mem_of_getElem? (i := 1774) rfl
set_option maxRecDepth 100000 in
theorem pm_ml_14_145 : Cond.methodLink (pm_R 14) 145 yX10_untell ∈ lw_tbl := List.mem_of_getElem? (i := 1118) rfl
set_option maxRecDepth 100000 in
theorem pm_ml_14_149 : Cond.methodLink (pm_R 14) 149 yX11_untell ∈ lw_tbl := List.mem_of_getElem? (i := 1778) rfl
set_option maxRecDepth 100000 in
theorem pm_ml_14_150 : Cond.methodLink (pm_R 14) 150 yX10_later ∈ lw_tbl := List.mem_of_getElem? (i := 1126) rfl
set_option maxRecDepth 100000 in
theorem pm_ml_14_153 : Cond.methodLink (pm_R 14) 153 yX11_later ∈ lw_tbl := List.mem_of_getElem? (i := 1782) rfl
set_option maxRecDepth 100000 in
theorem pm_ml_14_154 : Cond.methodLink (pm_R 14) 154 yX10_orders ∈ lw_tbl := List.mem_of_getElem? (i := 1131) rfl
set_option maxRecDepth 100000 in
theorem pm_ml_14_157 : Cond.methodLink (pm_R 14) 157 yX11_orders ∈ lw_tbl := List.mem_of_getElem? (i := 1787) rfl
set_option maxRecDepth 100000 in
theorem pm_ml_14_158 : Cond.methodLink (pm_R 14) 158 yX10_image ∈ lw_tbl := List.mem_of_getElem? (i := 1140) rfl
set_option maxRecDepth 100000 in
theorem pm_ml_14_161 : Cond.methodLink (pm_R 14) 161 yX11_image ∈ lw_tbl := List.mem_of_getElem? (i := 1795) rfl
set_option maxRecDepth 100000 in
theorem pm_ml_14_162 : Cond.methodLink (pm_R 14) 162 yX10_back ∈ lw_tbl := List.mem_of_getElem? (i := 1149) rfl
set_option maxRecDepth 100000 in
theorem pm_ml_14_165 : Cond.methodLink (pm_R 14) 165 yX11_back ∈ lw_tbl := List.mem_of_getElem? (i := 1799) rfl
set_option maxRecDepth 100000 in
theorem pm_ml_14_166 : Cond.methodLink (pm_R 14) 166 yX10_about ∈ lw_tbl := List.mem_of_getElem? (i := 1158) rfl
set_option maxRecDepth 100000 in
theorem pm_ml_14_169 : Cond.methodLink (pm_R 14) 169 yX11_about ∈ lw_tbl := List.mem_of_getElem? (i := 1803) rfl
set_option maxRecDepth 100000 in
theorem pm_ML_ok : ∀ q ∈ pm_ML, ∃ (y : MethodName) (r : _), pm_M[q.2.2]? = some (y, r) ∧ Cond.methodLink (pm_R q.1) q.2.1 y ∈ lw_tbl := (List.forall_mem_cons.mpr ⟨⟨yJ7_fill_53178, _, rfl, pm_ml_0_31⟩, (List.forall_mem_cons.mpr ⟨⟨yX0_forgetActs, _, rfl, pm_ml_0_41⟩, (List.forall_mem_cons.mpr ⟨⟨yX0_note, _, rfl, pm_ml_0_50⟩, (List.forall_mem_cons.mpr ⟨⟨yX0_doAgain, _, rfl, pm_ml_0_54⟩, (List.forall_mem_cons.mpr ⟨⟨yX0_dropOldest, _, rfl, pm_ml_0_58⟩, (List.forall_mem_cons.mpr ⟨⟨yX0_forgetActs, _, rfl, pm_ml_1_37⟩, (List.forall_mem_cons.mpr ⟨⟨yX4_empty, _, rfl, pm_ml_2_33⟩, (List.forall_mem_cons.mpr ⟨⟨yX8_begin, _, rfl, pm_ml_2_36⟩, (List.forall_mem_cons.mpr ⟨⟨yX2_readWord, _, rfl, pm_ml_2_47⟩, (List.forall_mem_cons.mpr ⟨⟨yX2_readPair, _, rfl, pm_ml_2_51⟩, (List.forall_mem_cons.mpr ⟨⟨yX2_readRule, _, rfl, pm_ml_2_54⟩, (List.forall_mem_cons.mpr ⟨⟨yX2_readLength, _, rfl, pm_ml_2_57⟩, (List.forall_mem_cons.mpr ⟨⟨yX2_readTurns, _, rfl, pm_ml_2_60⟩, (List.forall_mem_cons.mpr ⟨⟨yX8_refuse, _, rfl, pm_ml_2_63⟩, (List.forall_mem_cons.mpr ⟨⟨yX2_pass, _, rfl, pm_ml_2_67⟩, (List.forall_mem_cons.mpr ⟨⟨yX2_bindParts, _, rfl, pm_ml_2_70⟩, (List.forall_mem_cons.mpr ⟨⟨yX8_advance, _, rfl, pm_ml_2_73⟩, (List.forall_mem_cons.mpr ⟨⟨yX2_passFirst, _, rfl, pm_ml_2_79⟩, (List.forall_mem_cons.mpr ⟨⟨yX2_passNewName, _, rfl, pm_ml_2_87⟩, (List.forall_mem_cons.mpr ⟨⟨yX2_readWorths, _, rfl, pm_ml_2_93⟩, (List.forall_mem_cons.mpr ⟨⟨yX4_symbolOf, _, rfl, pm_ml_2_100⟩, (List.forall_mem_cons.mpr ⟨⟨yX2_passNumber, _, rfl, pm_ml_2_107⟩, (List.forall_mem_cons.mpr ⟨⟨yX2_symbolAtHand, _, rfl, pm_ml_2_114⟩, (List.forall_mem_cons.mpr ⟨⟨yX2_passPairName, _, rfl, pm_ml_2_118⟩, (List.forall_mem_cons.mpr ⟨⟨yX4_hasWord, _, rfl, pm_ml_2_122⟩, (List.forall_mem_cons.mpr ⟨⟨yX2_readAlt, _, rfl, pm_ml_2_138⟩, (List.forall_mem_cons.mpr ⟨⟨yX2_bindAlt, _, rfl, pm_ml_2_166⟩, (List.forall_mem_cons.mpr ⟨⟨yX3_endOf, _, rfl, pm_ml_3_37⟩, (List.forall_mem_cons.mpr ⟨⟨yX3_clearResults, _, rfl, pm_ml_3_44⟩, (List.forall_mem_cons.mpr ⟨⟨yX9_isCharter, _, rfl, pm_ml_3_48⟩, (List.forall_mem_cons.mpr ⟨⟨yX3_offer, _, rfl, pm_ml_3_55⟩, (List.forall_mem_cons.mpr ⟨⟨yX3_worthTo, _, rfl, pm_ml_3_62⟩, (List.forall_mem_cons.mpr ⟨⟨yX3_isBribed, _, rfl, pm_ml_3_69⟩, (List.forall_mem_cons.mpr ⟨⟨yX9_wordAt, _, rfl, pm_ml_3_88⟩, (List.forall_mem_cons.mpr ⟨⟨yX3_meansMore, _, rfl, pm_ml_3_94⟩, (List.forall_mem_cons.mpr ⟨⟨yX3_sumOf, _, rfl, pm_ml_3_99⟩, (List.forall_mem_cons.mpr ⟨⟨yX3_better, _, rfl, pm_ml_3_102⟩, (List.forall_mem_cons.mpr ⟨⟨yJ7_fill_53178, _, rfl, pm_ml_4_51⟩, (List.forall_mem_cons.mpr ⟨⟨yX4_meaningBehind, _, rfl, pm_ml_4_70⟩, (List.forall_mem_cons.mpr ⟨⟨yX4_sizeOfAlt, _, rfl, pm_ml_4_74⟩, (List.forall_mem_cons.mpr ⟨⟨yX4_rulesNextTo, _, rfl, pm_ml_4_78⟩, (List.forall_mem_cons.mpr ⟨⟨yX5_fillColumn, _, rfl, pm_ml_5_18⟩, (List.forall_mem_cons.mpr ⟨⟨yX5_beginColumn, _, rfl, pm_ml_5_44⟩, (List.forall_mem_cons.mpr ⟨⟨yX5_startsOfAlt, _, rfl, pm_ml_5_52⟩, (List.forall_mem_cons.mpr ⟨⟨yX9_wordAt, _, rfl, pm_ml_6_35⟩, (List.forall_mem_cons.mpr ⟨⟨yX7_fillColumn, _, rfl, pm_ml_7_22⟩, (List.forall_mem_cons.mpr ⟨⟨yX7_waysOfAlt, _, rfl, pm_ml_7_34⟩, (List.forall_mem_cons.mpr ⟨⟨yX8_advance, _, rfl, pm_ml_8_63⟩, (List.forall_mem_cons.mpr ⟨⟨yX8_takeLetters, _, rfl, pm_ml_8_72⟩, (List.forall_mem_cons.mpr ⟨⟨yX8_takeDigits, _, rfl, pm_ml_8_75⟩, (List.forall_mem_cons.mpr ⟨⟨yX8_refuse, _, rfl, pm_ml_8_78⟩, (List.forall_mem_cons.mpr ⟨⟨yX9_addRoot, _, rfl, pm_ml_9_47⟩, (List.forall_mem_cons.mpr ⟨⟨yX5_readBeginning, _, rfl, pm_ml_9_51⟩, (List.forall_mem_cons.mpr ⟨⟨yX9_grow, _, rfl, pm_ml_9_57⟩, (List.forall_mem_cons.mpr ⟨⟨yX4_meaningOf, _, rfl, pm_ml_9_64⟩, (List.forall_mem_cons.mpr ⟨⟨yX5_nextWords, _, rfl, pm_ml_9_68⟩, (List.forall_mem_cons.mpr ⟨⟨yX9_add, _, rfl, pm_ml_9_75⟩, (List.forall_mem_cons.mpr ⟨⟨yX9_growBehind, _, rfl, pm_ml_9_79⟩, (List.forall_mem_cons.mpr ⟨⟨yX5_goOn, _, rfl, pm_ml_9_83⟩, (List.forall_mem_cons.mpr ⟨⟨yX4_meaningBehind, _, rfl, pm_ml_9_87⟩, (List.forall_mem_cons.mpr ⟨⟨yX9_wordAt, _, rfl, pm_ml_9_91⟩, (List.forall_mem_cons.mpr ⟨⟨yX10_tapeNumber, _, rfl, pm_ml_10_96⟩, (List.forall_mem_cons.mpr ⟨⟨yX2_readsInto, _, rfl, pm_ml_10_100⟩, (List.forall_mem_cons.mpr ⟨⟨yX10_forgetOldPort, _, rfl, pm_ml_10_104⟩, (List.forall_mem_cons.mpr ⟨⟨yX0_empty, _, rfl, pm_ml_10_110⟩, (List.forall_mem_cons.mpr ⟨⟨yX7_forget, _, rfl, pm_ml_10_117⟩, (List.forall_mem_cons.mpr ⟨⟨yX9_forget, _, rfl, pm_ml_10_120⟩, (List.forall_mem_cons.mpr ⟨⟨yX3_forget, _, rfl, pm_ml_10_121⟩, (List.forall_mem_cons.mpr ⟨⟨yX4_hasWord, _, rfl, pm_ml_10_143⟩, (List.forall_mem_cons.mpr ⟨⟨yX10_isGuild, _, rfl, pm_ml_10_147⟩, (List.forall_mem_cons.mpr ⟨⟨yX4_hasPlace, _, rfl, pm_ml_10_157⟩, (List.forall_mem_cons.mpr ⟨⟨yX10_ownerInEarnest, _, rfl, pm_ml_10_160⟩, (List.forall_mem_cons.mpr ⟨⟨yX4_turnAt, _, rfl, pm_ml_10_167⟩, (List.forall_mem_cons.mpr ⟨⟨yX10_nextInEarnest, _, rfl, pm_ml_10_170⟩, (List.forall_mem_cons.mpr ⟨⟨yX0_putWord, _, rfl, pm_ml_10_174⟩, (List.forall_mem_cons.mpr ⟨⟨yX10_isUnwritten, _, rfl, pm_ml_10_180⟩, (List.forall_mem_cons.mpr ⟨⟨yX0_putSale, _, rfl, pm_ml_10_183⟩, (List.forall_mem_cons.mpr ⟨⟨yX0_takeBack, _, rfl, pm_ml_10_187⟩, (List.forall_mem_cons.mpr ⟨⟨yX0_doAgain, _, rfl, pm_ml_10_191⟩, (List.forall_mem_cons.mpr ⟨⟨yX5_readBeginning, _, rfl, pm_ml_10_197⟩, (List.forall_mem_cons.mpr ⟨⟨yX5_nextWords, _, rfl, pm_ml_10_201⟩, (List.forall_mem_cons.mpr ⟨⟨yX7_countOf, _, rfl, pm_ml_10_205⟩, (List.forall_mem_cons.mpr ⟨⟨yX4_meaningOf, _, rfl, pm_ml_10_209⟩, (List.forall_mem_cons.mpr ⟨⟨yX10_growEarnest, _, rfl, pm_ml_10_213⟩, (List.forall_mem_cons.mpr ⟨⟨yX9_hasCharters, _, rfl, pm_ml_10_217⟩, (List.forall_mem_cons.mpr ⟨⟨yX10_ownAsInEarnest, _, rfl, pm_ml_10_220⟩, (List.forall_mem_cons.mpr ⟨⟨yX3_endOf, _, rfl, pm_ml_10_223⟩, (List.forall_mem_cons.mpr ⟨⟨yX10_lay, _, rfl, pm_ml_10_227⟩, (List.forall_mem_cons.mpr ⟨⟨yX9_growFrom, _, rfl, pm_ml_10_234⟩, (List.forall_mem_cons.mpr ⟨⟨yX9_wordAt, _, rfl, pm_ml_10_244⟩, (List.forall_mem_cons.mpr ⟨⟨yX3_heldBy, _, rfl, pm_ml_10_248⟩, (List.forall_mem_cons.mpr ⟨⟨yX10_sixShares, _, rfl, pm_ml_10_252⟩, (List.forall_mem_cons.mpr ⟨⟨yX3_firstSwap, _, rfl, pm_ml_10_258⟩, (List.forall_mem_cons.mpr ⟨⟨yX3_leastBribe, _, rfl, pm_ml_10_261⟩, (List.forall_mem_cons.mpr ⟨⟨yX4_findShortest, _, rfl, pm_ml_10_265⟩, (List.forall_mem_cons.mpr ⟨⟨yX4_rulesOfUse, _, rfl, pm_ml_10_269⟩, (List.forall_mem_cons.mpr ⟨⟨yX10_growWhole, _, rfl, pm_ml_10_276⟩, (List.forall_mem_cons.mpr ⟨⟨yX9_isCharter, _, rfl, pm_ml_10_283⟩, (List.forall_mem_cons.mpr ⟨⟨yX9_wordsInto, _, rfl, pm_ml_10_286⟩, (List.forall_mem_cons.mpr ⟨⟨yX3_findLotEnds, _, rfl, pm_ml_10_290⟩, (List.forall_mem_cons.mpr ⟨⟨yX10_growHoles, _, rfl, pm_ml_10_297⟩, (List.forall_mem_cons.mpr ⟨⟨yX0_rowWithout, _, rfl, pm_ml_10_300⟩, (List.forall_mem_cons.mpr ⟨⟨yX6_tell, _, rfl, pm_ml_10_304⟩, (List.forall_mem_cons.mpr ⟨⟨yX6_takeBack, _, rfl, pm_ml_10_308⟩, (List.forall_mem_cons.mpr ⟨⟨yX6_agree, _, rfl, pm_ml_10_314⟩, (List.forall_mem_cons.mpr ⟨⟨yX1_keep, _, rfl, pm_ml_10_318⟩, (List.forall_mem_cons.mpr ⟨⟨yX1_giveBack, _, rfl, pm_ml_10_322⟩, (List.forall_mem_cons.mpr ⟨⟨yX11_clearBank, _, rfl, pm_ml_11_158⟩, (List.forall_mem_cons.mpr ⟨⟨yX11_begin, _, rfl, pm_ml_11_161⟩, (List.forall_mem_cons.mpr ⟨⟨yX11_sign, _, rfl, pm_ml_11_188⟩, (List.forall_mem_cons.mpr ⟨⟨yX11_isLetter, _, rfl, pm_ml_11_195⟩, (List.forall_mem_cons.mpr ⟨⟨yX11_isKept, _, rfl, pm_ml_11_203⟩, (List.forall_mem_cons.mpr ⟨⟨yX11_isDigit, _, rfl, pm_ml_11_207⟩, (List.forall_mem_cons.mpr ⟨⟨yX11_fails, _, rfl, pm_ml_11_213⟩, (List.forall_mem_cons.mpr ⟨⟨yX11_isGood, _, rfl, pm_ml_11_217⟩, (List.forall_mem_cons.mpr ⟨⟨yX11_goOn, _, rfl, pm_ml_11_221⟩, (List.forall_mem_cons.mpr ⟨⟨yX11_misplaced, _, rfl, pm_ml_11_224⟩, (List.forall_mem_cons.mpr ⟨⟨yX11_readLine, _, rfl, pm_ml_11_236⟩, (List.forall_mem_cons.mpr ⟨⟨yX11_settle, _, rfl, pm_ml_11_239⟩, (List.forall_mem_cons.mpr ⟨⟨yX11_isWord, _, rfl, pm_ml_11_251⟩, (List.forall_mem_cons.mpr ⟨⟨yX11_isFull, _, rfl, pm_ml_11_254⟩, (List.forall_mem_cons.mpr ⟨⟨yX11_readWord, _, rfl, pm_ml_11_257⟩, (List.forall_mem_cons.mpr ⟨⟨yX11_readPair, _, rfl, pm_ml_11_260⟩, (List.forall_mem_cons.mpr ⟨⟨yX11_readRule, _, rfl, pm_ml_11_263⟩, (List.forall_mem_cons.mpr ⟨⟨yX11_numeral, _, rfl, pm_ml_11_266⟩, (List.forall_mem_cons.mpr ⟨⟨yX11_readTurns, _, rfl, pm_ml_11_270⟩, (List.forall_mem_cons.mpr ⟨⟨yX11_isSignHere, _, rfl, pm_ml_11_273⟩, (List.forall_mem_cons.mpr ⟨⟨yX11_must, _, rfl, pm_ml_11_276⟩, (List.forall_mem_cons.mpr ⟨⟨yX11_wordOf, _, rfl, pm_ml_11_280⟩, (List.forall_mem_cons.mpr ⟨⟨yX11_ruleOf, _, rfl, pm_ml_11_284⟩, (List.forall_mem_cons.mpr ⟨⟨yX11_fresh, _, rfl, pm_ml_11_287⟩, (List.forall_mem_cons.mpr ⟨⟨yX11_known, _, rfl, pm_ml_11_291⟩, (List.forall_mem_cons.mpr ⟨⟨yX11_readAlt, _, rfl, pm_ml_11_295⟩, (List.forall_mem_cons.mpr ⟨⟨yX11_isIn, _, rfl, pm_ml_11_298⟩, (List.forall_mem_cons.mpr ⟨⟨yX11_longOf, _, rfl, pm_ml_11_302⟩, (List.forall_mem_cons.mpr ⟨⟨yX11_isWordOf, _, rfl, pm_ml_11_305⟩, (List.forall_mem_cons.mpr ⟨⟨yX11_isGuild, _, rfl, pm_ml_11_308⟩, (List.forall_mem_cons.mpr ⟨⟨yX11_pairOf, _, rfl, pm_ml_11_312⟩, (List.forall_mem_cons.mpr ⟨⟨yX11_endsBy, _, rfl, pm_ml_11_316⟩, (List.forall_mem_cons.mpr ⟨⟨yX11_doesRead, _, rfl, pm_ml_11_319⟩, (List.forall_mem_cons.mpr ⟨⟨yX11_layEnds, _, rfl, pm_ml_11_322⟩, (List.forall_mem_cons.mpr ⟨⟨yX11_waysBy, _, rfl, pm_ml_11_326⟩, (List.forall_mem_cons.mpr ⟨⟨yX11_atMost, _, rfl, pm_ml_11_330⟩, (List.forall_mem_cons.mpr ⟨⟨yX11_toldTurn, _, rfl, pm_ml_11_345⟩, (List.forall_mem_cons.mpr ⟨⟨yX11_isRead, _, rfl, pm_ml_11_348⟩, (List.forall_mem_cons.mpr ⟨⟨yX11_tryRow, _, rfl, pm_ml_11_351⟩, (List.forall_mem_cons.mpr ⟨⟨yX11_canGoOn, _, rfl, pm_ml_11_354⟩, (List.forall_mem_cons.mpr ⟨⟨yX11_isPlace, _, rfl, pm_ml_11_357⟩, (List.forall_mem_cons.mpr ⟨⟨yX11_canCome, _, rfl, pm_ml_11_360⟩, (List.forall_mem_cons.mpr ⟨⟨yX11_readingsOf, _, rfl, pm_ml_11_363⟩, (List.forall_mem_cons.mpr ⟨⟨yX11_meansOf, _, rfl, pm_ml_11_367⟩, (List.forall_mem_cons.mpr ⟨⟨yX11_keepAct, _, rfl, pm_ml_11_370⟩, (List.forall_mem_cons.mpr ⟨⟨yX11_exchange, _, rfl, pm_ml_11_373⟩, (List.forall_mem_cons.mpr ⟨⟨yX11_wordIn, _, rfl, pm_ml_11_380⟩, (List.forall_mem_cons.mpr ⟨⟨yX11_keyOf, _, rfl, pm_ml_11_383⟩, (List.forall_mem_cons.mpr ⟨⟨yX11_isOnPath, _, rfl, pm_ml_11_396⟩, (List.forall_mem_cons.mpr ⟨⟨yX11_takeCharter, _, rfl, pm_ml_11_399⟩, (List.forall_mem_cons.mpr ⟨⟨yX11_packed, _, rfl, pm_ml_11_402⟩, (List.forall_mem_cons.mpr ⟨⟨yX11_layList, _, rfl, pm_ml_11_405⟩, (List.forall_mem_cons.mpr ⟨⟨yX11_gain, _, rfl, pm_ml_11_418⟩, (List.forall_mem_cons.mpr ⟨⟨yX11_gainOf, _, rfl, pm_ml_11_421⟩, (List.forall_mem_cons.mpr ⟨⟨yX11_areGrouped, _, rfl, pm_ml_11_424⟩, (List.forall_mem_cons.mpr ⟨⟨yX11_isBetter, _, rfl, pm_ml_11_427⟩, (List.forall_mem_cons.mpr ⟨⟨yX11_orderTurn, _, rfl, pm_ml_11_431⟩, (List.forall_mem_cons.mpr ⟨⟨yX11_layFromRow, _, rfl, pm_ml_11_434⟩, (List.forall_mem_cons.mpr ⟨⟨yX11_turnsNow, _, rfl, pm_ml_11_437⟩, (List.forall_mem_cons.mpr ⟨⟨yX11_plays, _, rfl, pm_ml_11_440⟩, (List.forall_mem_cons.mpr ⟨⟨yX11_lay, _, rfl, pm_ml_11_443⟩, (List.forall_mem_cons.mpr ⟨⟨yX11_heldBy, _, rfl, pm_ml_11_446⟩, (List.forall_mem_cons.mpr ⟨⟨yX11_common, _, rfl, pm_ml_11_449⟩, (List.forall_mem_cons.mpr ⟨⟨yX11_layFromNone, _, rfl, pm_ml_11_452⟩, (List.forall_mem_cons.mpr ⟨⟨yX11_turnsByOrder, _, rfl, pm_ml_11_455⟩, (List.forall_mem_cons.mpr ⟨⟨yX11_sumOf, _, rfl, pm_ml_11_458⟩, (List.forall_mem_cons.mpr ⟨⟨yX11_layShortest, _, rfl, pm_ml_11_462⟩, (List.forall_mem_cons.mpr ⟨⟨yX11_unpack, _, rfl, pm_ml_11_465⟩, (List.forall_mem_cons.mpr ⟨⟨yX11_tryWithout, _, rfl, pm_ml_11_470⟩, (List.forall_mem_cons.mpr ⟨⟨yX11_isSo, _, rfl, pm_ml_11_477⟩, (List.forall_mem_cons.mpr ⟨⟨yX10_feed, _, rfl, pm_ml_14_13⟩, (List.forall_mem_cons.mpr ⟨⟨yX11_feed, _, rfl, pm_ml_14_17⟩, (List.forall_mem_cons.mpr ⟨⟨yX10_end, _, rfl, pm_ml_14_18⟩, (List.forall_mem_cons.mpr ⟨⟨yX11_end, _, rfl, pm_ml_14_22⟩, (List.forall_mem_cons.mpr ⟨⟨yX10_port, _, rfl, pm_ml_14_23⟩, (List.forall_mem_cons.mpr ⟨⟨yX11_port, _, rfl, pm_ml_14_27⟩, (List.forall_mem_cons.mpr ⟨⟨yX10_fault, _, rfl, pm_ml_14_28⟩, (List.forall_mem_cons.mpr ⟨⟨yX11_fault, _, rfl, pm_ml_14_31⟩, (List.forall_mem_cons.mpr ⟨⟨yX10_worth, _, rfl, pm_ml_14_32⟩, (List.forall_mem_cons.mpr ⟨⟨yX11_worth, _, rfl, pm_ml_14_36⟩, (List.forall_mem_cons.mpr ⟨⟨yX10_behind, _, rfl, pm_ml_14_37⟩, (List.forall_mem_cons.mpr ⟨⟨yX11_behind, _, rfl, pm_ml_14_41⟩, (List.forall_mem_cons.mpr ⟨⟨yX10_turn, _, rfl, pm_ml_14_42⟩, (List.forall_mem_cons.mpr ⟨⟨yX11_turn, _, rfl, pm_ml_14_45⟩, (List.forall_mem_cons.mpr ⟨⟨yX10_write, _, rfl, pm_ml_14_46⟩, (List.forall_mem_cons.mpr ⟨⟨yX11_write, _, rfl, pm_ml_14_49⟩, (List.forall_mem_cons.mpr ⟨⟨yX10_sell, _, rfl, pm_ml_14_50⟩, (List.forall_mem_cons.mpr ⟨⟨yX11_sell, _, rfl, pm_ml_14_53⟩, (List.forall_mem_cons.mpr ⟨⟨yX10_undo, _, rfl, pm_ml_14_54⟩, (List.forall_mem_cons.mpr ⟨⟨yX11_undo, _, rfl, pm_ml_14_58⟩, (List.forall_mem_cons.mpr ⟨⟨yX10_redo, _, rfl, pm_ml_14_59⟩, (List.forall_mem_cons.mpr ⟨⟨yX11_redo, _, rfl, pm_ml_14_62⟩, (List.forall_mem_cons.mpr ⟨⟨yX10_wipe, _, rfl, pm_ml_14_63⟩, (List.forall_mem_cons.mpr ⟨⟨yX11_wipe, _, rfl, pm_ml_14_66⟩, (List.forall_mem_cons.mpr ⟨⟨yX10_word, _, rfl, pm_ml_14_67⟩, (List.forall_mem_cons.mpr ⟨⟨yX11_word, _, rfl, pm_ml_14_70⟩, (List.forall_mem_cons.mpr ⟨⟨yX10_next, _, rfl, pm_ml_14_71⟩, (List.forall_mem_cons.mpr ⟨⟨yX11_next, _, rfl, pm_ml_14_74⟩, (List.forall_mem_cons.mpr ⟨⟨yX10_readings, _, rfl, pm_ml_14_75⟩, (List.forall_mem_cons.mpr ⟨⟨yX11_readings, _, rfl, pm_ml_14_78⟩, (List.forall_mem_cons.mpr ⟨⟨yX10_means, _, rfl, pm_ml_14_79⟩, (List.forall_mem_cons.mpr ⟨⟨yX11_means, _, rfl, pm_ml_14_82⟩, (List.forall_mem_cons.mpr ⟨⟨yX10_written, _, rfl, pm_ml_14_83⟩, (List.forall_mem_cons.mpr ⟨⟨yX11_written, _, rfl, pm_ml_14_86⟩, (List.forall_mem_cons.mpr ⟨⟨yX10_held, _, rfl, pm_ml_14_87⟩, (List.forall_mem_cons.mpr ⟨⟨yX11_held, _, rfl, pm_ml_14_90⟩, (List.forall_mem_cons.mpr ⟨⟨yX10_share, _, rfl, pm_ml_14_91⟩, (List.forall_mem_cons.mpr ⟨⟨yX11_share, _, rfl, pm_ml_14_94⟩, (List.forall_mem_cons.mpr ⟨⟨yX10_swap, _, rfl, pm_ml_14_95⟩, (List.forall_mem_cons.mpr ⟨⟨yX11_swap, _, rfl, pm_ml_14_98⟩, (List.forall_mem_cons.mpr ⟨⟨yX10_bribe, _, rfl, pm_ml_14_99⟩, (List.forall_mem_cons.mpr ⟨⟨yX11_bribe, _, rfl, pm_ml_14_102⟩, (List.forall_mem_cons.mpr ⟨⟨yX10_used, _, rfl, pm_ml_14_103⟩, (List.forall_mem_cons.mpr ⟨⟨yX11_used, _, rfl, pm_ml_14_106⟩, (List.forall_mem_cons.mpr ⟨⟨yX10_shortest, _, rfl, pm_ml_14_107⟩, (List.forall_mem_cons.mpr ⟨⟨yX11_shortest, _, rfl, pm_ml_14_110⟩, (List.forall_mem_cons.mpr ⟨⟨yX10_doubtful, _, rfl, pm_ml_14_111⟩, (List.forall_mem_cons.mpr ⟨⟨yX11_doubtful, _, rfl, pm_ml_14_114⟩, (List.forall_mem_cons.mpr ⟨⟨yX10_lots, _, rfl, pm_ml_14_115⟩, (List.forall_mem_cons.mpr ⟨⟨yX11_lots, _, rfl, pm_ml_14_118⟩, (List.forall_mem_cons.mpr ⟨⟨yX10_hole, _, rfl, pm_ml_14_119⟩, (List.forall_mem_cons.mpr ⟨⟨yX11_hole, _, rfl, pm_ml_14_123⟩, (List.forall_mem_cons.mpr ⟨⟨yX10_fit, _, rfl, pm_ml_14_124⟩, (List.forall_mem_cons.mpr ⟨⟨yX11_fit, _, rfl, pm_ml_14_127⟩, (List.forall_mem_cons.mpr ⟨⟨yX10_best, _, rfl, pm_ml_14_128⟩, (List.forall_mem_cons.mpr ⟨⟨yX11_best, _, rfl, pm_ml_14_131⟩, (List.forall_mem_cons.mpr ⟨⟨yX10_struck, _, rfl, pm_ml_14_132⟩, (List.forall_mem_cons.mpr ⟨⟨yX11_struck, _, rfl, pm_ml_14_135⟩, (List.forall_mem_cons.mpr ⟨⟨yX10_lies, _, rfl, pm_ml_14_136⟩, (List.forall_mem_cons.mpr ⟨⟨yX11_lies, _, rfl, pm_ml_14_139⟩, (List.forall_mem_cons.mpr ⟨⟨yX10_seen, _, rfl, pm_ml_14_140⟩, (List.forall_mem_cons.mpr ⟨⟨yX11_seen, _, rfl, pm_ml_14_144⟩, (List.forall_mem_cons.mpr ⟨⟨yX10_untell, _, rfl, pm_ml_14_145⟩, (List.forall_mem_cons.mpr ⟨⟨yX11_untell, _, rfl, pm_ml_14_149⟩, (List.forall_mem_cons.mpr ⟨⟨yX10_later, _, rfl, pm_ml_14_150⟩, (List.forall_mem_cons.mpr ⟨⟨yX11_later, _, rfl, pm_ml_14_153⟩, (List.forall_mem_cons.mpr ⟨⟨yX10_orders, _, rfl, pm_ml_14_154⟩, (List.forall_mem_cons.mpr ⟨⟨yX11_orders, _, rfl, pm_ml_14_157⟩, (List.forall_mem_cons.mpr ⟨⟨yX10_image, _, rfl, pm_ml_14_158⟩, (List.forall_mem_cons.mpr ⟨⟨yX11_image, _, rfl, pm_ml_14_161⟩, (List.forall_mem_cons.mpr ⟨⟨yX10_back, _, rfl, pm_ml_14_162⟩, (List.forall_mem_cons.mpr ⟨⟨yX11_back, _, rfl, pm_ml_14_165⟩, (List.forall_mem_cons.mpr ⟨⟨yX10_about, _, rfl, pm_ml_14_166⟩, (List.forall_mem_cons.mpr ⟨⟨yX11_about, _, rfl, pm_ml_14_169⟩, (fun _ h => absurd h List.not_mem_nil)⟩)⟩)⟩)⟩)⟩)⟩)⟩)⟩)⟩)⟩)⟩)⟩)⟩)⟩)⟩)⟩)⟩)⟩)⟩)⟩)⟩)⟩)⟩)⟩)⟩)⟩)⟩)⟩)⟩)⟩)⟩)⟩)⟩)⟩)⟩)⟩)⟩)⟩)⟩)⟩)⟩)⟩)⟩)⟩)⟩)⟩)⟩)⟩)⟩)⟩)⟩)⟩)⟩)⟩)⟩)⟩)⟩)⟩)⟩)⟩)⟩)⟩)⟩)⟩)⟩)⟩)⟩)⟩)⟩)⟩)⟩)⟩)⟩)⟩)⟩)⟩)⟩)⟩)⟩)⟩)⟩)⟩)⟩)⟩)⟩)⟩)⟩)⟩)⟩)⟩)⟩)⟩)⟩)⟩)⟩)⟩)⟩)⟩)⟩)⟩)⟩)⟩)⟩)⟩)⟩)⟩)⟩)⟩)⟩)⟩)⟩)⟩)⟩)⟩)⟩)⟩)⟩)⟩)⟩)⟩)⟩)⟩)⟩)⟩)⟩)⟩)⟩)⟩)⟩)⟩)⟩)⟩)⟩)⟩)⟩)⟩)⟩)⟩)⟩)⟩)⟩)⟩)⟩)⟩)⟩)⟩)⟩)⟩)⟩)⟩)⟩)⟩)⟩)⟩)⟩)⟩)⟩)⟩)⟩)⟩)⟩)⟩)⟩)⟩)⟩)⟩)⟩)⟩)⟩)⟩)⟩)⟩)⟩)⟩)⟩)⟩)⟩)⟩)⟩)⟩)⟩)⟩)⟩)⟩)⟩)⟩)⟩)⟩)⟩)⟩)⟩)⟩)⟩)⟩)⟩)⟩)⟩)⟩)⟩)⟩)⟩)⟩)⟩)⟩)⟩)⟩)⟩)⟩)⟩)⟩)⟩)⟩)⟩)⟩)⟩)⟩)⟩)⟩)⟩)⟩)⟩)⟩)⟩)⟩)⟩)⟩)⟩)⟩)⟩)⟩)⟩)⟩)⟩)⟩)⟩)⟩)⟩)⟩)⟩)⟩)⟩)⟩)⟩)⟩)⟩)⟩)⟩)⟩)⟩)⟩)⟩)
set_option maxRecDepth 100000 in
theorem pm_ci_3_98 : Cond.constant (pm_R 3) 98 (Int32.ofInt (-1000000)) ∈ lw_tbl := List.mem_of_getElem? (i := 995) rfl
set_option maxRecDepth 100000 in
theorem pm_ci_10_153 : Cond.constant (pm_R 10) 153 (Int32.ofInt (-1000000)) ∈ lw_tbl := List.mem_of_getElem? (i := 770) rfl
set_option maxRecDepth 100000 in
theorem pm_ci_10_313 : Cond.constant (pm_R 10) 313 (Int32.ofInt 100000) ∈ lw_tbl := List.mem_of_getElem? (i := 1130) rfl
set_option maxRecDepth 100000 in
theorem pm_ci_11_311 : Cond.constant (pm_R 11) 311 (Int32.ofInt (-1000000)) ∈ lw_tbl := List.mem_of_getElem? (i := 1515) rfl
set_option maxRecDepth 100000 in
theorem pm_ci_11_461 : Cond.constant (pm_R 11) 461 (Int32.ofInt 1000000) ∈ lw_tbl := List.mem_of_getElem? (i := 1740) rfl
set_option maxRecDepth 100000 in
theorem pm_ci_11_476 : Cond.constant (pm_R 11) 476 (Int32.ofInt 100000) ∈ lw_tbl := List.mem_of_getElem? (i := 1786) rfl
set_option maxRecDepth 100000 in
theorem pm_CI_ok : ∀ q ∈ pm_CI, Cond.constant (pm_R q.1) q.2.1 (Int32.ofInt q.2.2) ∈ lw_tbl := (List.forall_mem_cons.mpr ⟨pm_ci_3_98, (List.forall_mem_cons.mpr ⟨pm_ci_10_153, (List.forall_mem_cons.mpr ⟨pm_ci_10_313, (List.forall_mem_cons.mpr ⟨pm_ci_11_311, (List.forall_mem_cons.mpr ⟨pm_ci_11_461, (List.forall_mem_cons.mpr ⟨pm_ci_11_476, (fun _ h => absurd h List.not_mem_nil)⟩)⟩)⟩)⟩)⟩)⟩)
set_option maxRecDepth 100000 in
theorem pm_cl_5_40 : Cond.constantLong (pm_R 5) 40 (Int64.ofInt 255) ∈ lw_tbl := List.mem_of_getElem? (i := 811) rfl
set_option maxRecDepth 100000 in
theorem pm_cl_5_42 : Cond.constantLong (pm_R 5) 42 (Int64.ofInt 1103823438081) ∈ lw_tbl := List.mem_of_getElem? (i := 816) rfl
set_option maxRecDepth 100000 in
theorem pm_cl_7_38 : Cond.constantLong (pm_R 7) 38 (Int64.ofInt 1000000000) ∈ lw_tbl := List.mem_of_getElem? (i := 893) rfl
set_option maxRecDepth 100000 in
theorem pm_cl_11_170 : Cond.constantLong (pm_R 11) 170 (Int64.ofInt 2003792484) ∈ lw_tbl := List.mem_of_getElem? (i := 1412) rfl
set_option maxRecDepth 100000 in
theorem pm_cl_11_172 : Cond.constantLong (pm_R 11) 172 (Int64.ofInt 1885432178) ∈ lw_tbl := List.mem_of_getElem? (i := 1413) rfl
set_option maxRecDepth 100000 in
theorem pm_cl_11_174 : Cond.constantLong (pm_R 11) 174 (Int64.ofInt 1920298085) ∈ lw_tbl := List.mem_of_getElem? (i := 1414) rfl
set_option maxRecDepth 100000 in
theorem pm_cl_11_176 : Cond.constantLong (pm_R 11) 176 (Int64.ofInt 28530) ∈ lw_tbl := List.mem_of_getElem? (i := 1415) rfl
set_option maxRecDepth 100000 in
theorem pm_cl_11_178 : Cond.constantLong (pm_R 11) 178 (Int64.ofInt 119182899770472) ∈ lw_tbl := List.mem_of_getElem? (i := 1416) rfl
set_option maxRecDepth 100000 in
theorem pm_cl_11_180 : Cond.constantLong (pm_R 11) 180 (Int64.ofInt 500186639987) ∈ lw_tbl := List.mem_of_getElem? (i := 1417) rfl
set_option maxRecDepth 100000 in
theorem pm_cl_11_334 : Cond.constantLong (pm_R 11) 334 (Int64.ofInt 1000000000) ∈ lw_tbl := List.mem_of_getElem? (i := 1587) rfl
set_option maxRecDepth 100000 in
theorem pm_cl_11_376 : Cond.constantLong (pm_R 11) 376 (Int64.ofInt 8) ∈ lw_tbl := List.mem_of_getElem? (i := 1644) rfl
set_option maxRecDepth 100000 in
theorem pm_cl_11_378 : Cond.constantLong (pm_R 11) 378 (Int64.ofInt 10) ∈ lw_tbl := List.mem_of_getElem? (i := 1645) rfl
set_option maxRecDepth 100000 in
theorem pm_cl_11_468 : Cond.constantLong (pm_R 11) 468 (Int64.ofInt 2) ∈ lw_tbl := List.mem_of_getElem? (i := 1753) rfl
set_option maxRecDepth 100000 in
theorem pm_CL_ok : ∀ q ∈ pm_CL, Cond.constantLong (pm_R q.1) q.2.1 (Int64.ofInt q.2.2) ∈ lw_tbl := (List.forall_mem_cons.mpr ⟨pm_cl_5_40, (List.forall_mem_cons.mpr ⟨pm_cl_5_42, (List.forall_mem_cons.mpr ⟨pm_cl_7_38, (List.forall_mem_cons.mpr ⟨pm_cl_11_170, (List.forall_mem_cons.mpr ⟨pm_cl_11_172, (List.forall_mem_cons.mpr ⟨pm_cl_11_174, (List.forall_mem_cons.mpr ⟨pm_cl_11_176, (List.forall_mem_cons.mpr ⟨pm_cl_11_178, (List.forall_mem_cons.mpr ⟨pm_cl_11_180, (List.forall_mem_cons.mpr ⟨pm_cl_11_334, (List.forall_mem_cons.mpr ⟨pm_cl_11_376, (List.forall_mem_cons.mpr ⟨pm_cl_11_378, (List.forall_mem_cons.mpr ⟨pm_cl_11_468, (fun _ h => absurd h List.not_mem_nil)⟩)⟩)⟩)⟩)⟩)⟩)⟩)⟩)⟩)⟩)⟩)⟩)⟩)
def pm_mn (b : Nat) : MethodName := match b with
  | 0 => Lib.Math.max.name
  | 1 => Lib.Math.min.name
  | _ => Lib.MathLoose.min_long.x
set_option maxRecDepth 100000 in
theorem pm_mal_3_76 : Cond.methodLink (pm_R 3) 76 Lib.Math.min.name ∈ lw_tbl := List.mem_of_getElem? (i := 981) rfl
set_option maxRecDepth 100000 in
theorem pm_mal_3_106 : Cond.methodLink (pm_R 3) 106 Lib.Math.max.name ∈ lw_tbl := List.mem_of_getElem? (i := 1002) rfl
set_option maxRecDepth 100000 in
theorem pm_mal_7_40 : Cond.methodLink (pm_R 7) 40 Lib.MathLoose.min_long.x ∈ lw_tbl := List.mem_of_getElem? (i := 894) rfl
set_option maxRecDepth 100000 in
theorem pm_mal_8_48 : Cond.methodLink (pm_R 8) 48 Lib.Math.min.name ∈ lw_tbl := List.mem_of_getElem? (i := 645) rfl
theorem pm_MA_ok : ∀ q ∈ pm_MA, Cond.methodLink (pm_R q.1) q.2.1 (pm_mn q.2.2) ∈ lw_tbl := (List.forall_mem_cons.mpr ⟨pm_mal_3_76, (List.forall_mem_cons.mpr ⟨pm_mal_3_106, (List.forall_mem_cons.mpr ⟨pm_mal_7_40, (List.forall_mem_cons.mpr ⟨pm_mal_8_48, (fun _ h => absurd h List.not_mem_nil)⟩)⟩)⟩)⟩)
set_option maxRecDepth 100000 in
theorem pm_mas_0 : Cond.static Lib.Math.max.name ∈ lw_tbl := List.mem_of_getElem? (i := 1003) rfl
set_option maxRecDepth 100000 in
theorem pm_mac_0 : Cond.code Lib.Math.max.name Lib.Math.max.code 2 (some .int) ∈ lw_tbl := List.mem_of_getElem? (i := 1004) rfl
set_option maxRecDepth 100000 in
theorem pm_mas_1 : Cond.static Lib.Math.min.name ∈ lw_tbl := List.mem_of_getElem? (i := 646) rfl
set_option maxRecDepth 100000 in
theorem pm_mac_1 : Cond.code Lib.Math.min.name Lib.Math.min.code 2 (some .int) ∈ lw_tbl := List.mem_of_getElem? (i := 647) rfl
set_option maxRecDepth 100000 in
theorem pm_mas_2 : Cond.static Lib.MathLoose.min_long.x ∈ lw_tbl := List.mem_of_getElem? (i := 895) rfl
set_option maxRecDepth 100000 in
theorem pm_mac_2 : Cond.code Lib.MathLoose.min_long.x Lib.MathLoose.min_long.code 4 (some .long) ∈ lw_tbl := List.mem_of_getElem? (i := 896) rfl
set_option maxRecDepth 100000 in
theorem pm_mai : Cond.initialized "java/lang/Math" ∈ lw_tbl := List.mem_of_getElem? (i := 125) rfl
set_option maxRecDepth 100000 in
theorem pm_gs0 : Cond.fieldLink (pm_R 10) 255 "GuildCharter" "ORDER_GUILDS" "[I" ∈ lw_tbl := List.mem_of_getElem? (i := 1013) rfl
set_option maxRecDepth 100000 in
theorem pm_ac_1 : Cond.methodLink (pm_R 1) 30 arraycopyName ∈ lw_tbl := List.mem_of_getElem? (i := 1148) rfl
set_option maxRecDepth 100000 in
theorem pm_ac_5 : Cond.methodLink (pm_R 5) 34 arraycopyName ∈ lw_tbl := List.mem_of_getElem? (i := 821) rfl
set_option maxRecDepth 100000 in
theorem pm_acn : Cond.native arraycopyName ∈ lw_tbl := List.mem_of_getElem? (i := 823) rfl
set_option maxRecDepth 100000 in
theorem pm_acs : Cond.static arraycopyName ∈ lw_tbl := List.mem_of_getElem? (i := 822) rfl
set_option maxRecDepth 100000 in
theorem pm_aci : Cond.initialized "java/lang/System" ∈ lw_tbl := List.mem_of_getElem? (i := 126) rfl
set_option maxRecDepth 100000 in
theorem pm_mc_0 : Cond.code yX0_doAgain cX0_doAgain 2 (some (.boolean)) ∈ lw_tbl := List.mem_of_getElem? (i := 839) rfl
set_option maxRecDepth 100000 in
theorem pm_mi_0 : Cond.instanceMethod yX0_doAgain ∈ lw_tbl := List.mem_of_getElem? (i := 837) rfl
set_option maxRecDepth 100000 in
theorem pm_me_0 : Cond.selects (pm_R 0) yX0_doAgain yX0_doAgain ∈ lw_tbl := List.mem_of_getElem? (i := 838) rfl
set_option maxRecDepth 100000 in
theorem pm_mc_1 : Cond.code yX0_dropOldest cX0_dropOldest 2 (none) ∈ lw_tbl := List.mem_of_getElem? (i := 835) rfl
set_option maxRecDepth 100000 in
theorem pm_mi_1 : Cond.instanceMethod yX0_dropOldest ∈ lw_tbl := List.mem_of_getElem? (i := 834) rfl
set_option maxRecDepth 100000 in
theorem pm_me_1 : Cond.selects (pm_R 0) yX0_dropOldest yX0_dropOldest ∈ lw_tbl := List.mem_of_getElem? (i := 25) rfl
set_option maxRecDepth 100000 in
theorem pm_mc_2 : Cond.code yX0_empty cX0_empty 1 (none) ∈ lw_tbl := List.mem_of_getElem? (i := 741) rfl
set_option maxRecDepth 100000 in
theorem pm_mi_2 : Cond.instanceMethod yX0_empty ∈ lw_tbl := List.mem_of_getElem? (i := 739) rfl
set_option maxRecDepth 100000 in
theorem pm_me_2 : Cond.selects (pm_R 0) yX0_empty yX0_empty ∈ lw_tbl := List.mem_of_getElem? (i := 740) rfl
set_option maxRecDepth 100000 in
theorem pm_mc_3 : Cond.code yX0_forgetActs cX0_forgetActs 1 (none) ∈ lw_tbl := List.mem_of_getElem? (i := 745) rfl
set_option maxRecDepth 100000 in
theorem pm_mi_3 : Cond.instanceMethod yX0_forgetActs ∈ lw_tbl := List.mem_of_getElem? (i := 743) rfl
set_option maxRecDepth 100000 in
theorem pm_me_3 : Cond.selects (pm_R 0) yX0_forgetActs yX0_forgetActs ∈ lw_tbl := List.mem_of_getElem? (i := 744) rfl
set_option maxRecDepth 100000 in
theorem pm_mc_4 : Cond.code yX0_note cX0_note 5 (none) ∈ lw_tbl := List.mem_of_getElem? (i := 831) rfl
set_option maxRecDepth 100000 in
theorem pm_mi_4 : Cond.instanceMethod yX0_note ∈ lw_tbl := List.mem_of_getElem? (i := 830) rfl
set_option maxRecDepth 100000 in
theorem pm_me_4 : Cond.selects (pm_R 0) yX0_note yX0_note ∈ lw_tbl := List.mem_of_getElem? (i := 24) rfl
set_option maxRecDepth 100000 in
theorem pm_mc_5 : Cond.code yX0_putSale cX0_putSale 3 (none) ∈ lw_tbl := List.mem_of_getElem? (i := 851) rfl
set_option maxRecDepth 100000 in
theorem pm_mi_5 : Cond.instanceMethod yX0_putSale ∈ lw_tbl := List.mem_of_getElem? (i := 849) rfl
set_option maxRecDepth 100000 in
theorem pm_me_5 : Cond.selects (pm_R 0) yX0_putSale yX0_putSale ∈ lw_tbl := List.mem_of_getElem? (i := 850) rfl
set_option maxRecDepth 100000 in
theorem pm_mc_6 : Cond.code yX0_putWord cX0_putWord 2 (none) ∈ lw_tbl := List.mem_of_getElem? (i := 827) rfl
set_option maxRecDepth 100000 in
theorem pm_mi_6 : Cond.instanceMethod yX0_putWord ∈ lw_tbl := List.mem_of_getElem? (i := 825) rfl
set_option maxRecDepth 100000 in
theorem pm_me_6 : Cond.selects (pm_R 0) yX0_putWord yX0_putWord ∈ lw_tbl := List.mem_of_getElem? (i := 826) rfl
set_option maxRecDepth 100000 in
theorem pm_mc_7 : Cond.code yX0_rowWithout cX0_rowWithout 5 (some (.int)) ∈ lw_tbl := List.mem_of_getElem? (i := 1105) rfl
set_option maxRecDepth 100000 in
theorem pm_mi_7 : Cond.instanceMethod yX0_rowWithout ∈ lw_tbl := List.mem_of_getElem? (i := 1103) rfl
set_option maxRecDepth 100000 in
theorem pm_me_7 : Cond.selects (pm_R 0) yX0_rowWithout yX0_rowWithout ∈ lw_tbl := List.mem_of_getElem? (i := 1104) rfl
set_option maxRecDepth 100000 in
theorem pm_mc_8 : Cond.code yX0_takeBack cX0_takeBack 1 (some (.boolean)) ∈ lw_tbl := List.mem_of_getElem? (i := 859) rfl
set_option maxRecDepth 100000 in
theorem pm_mi_8 : Cond.instanceMethod yX0_takeBack ∈ lw_tbl := List.mem_of_getElem? (i := 857) rfl
set_option maxRecDepth 100000 in
theorem pm_me_8 : Cond.selects (pm_R 0) yX0_takeBack yX0_takeBack ∈ lw_tbl := List.mem_of_getElem? (i := 858) rfl
set_option maxRecDepth 100000 in
theorem pm_mc_9 : Cond.code yX1_giveBack cX1_giveBack 2 (none) ∈ lw_tbl := List.mem_of_getElem? (i := 1156) rfl
set_option maxRecDepth 100000 in
theorem pm_mi_9 : Cond.instanceMethod yX1_giveBack ∈ lw_tbl := List.mem_of_getElem? (i := 1154) rfl
set_option maxRecDepth 100000 in
theorem pm_me_9 : Cond.selects (pm_R 1) yX1_giveBack yX1_giveBack ∈ lw_tbl := List.mem_of_getElem? (i := 1155) rfl
set_option maxRecDepth 100000 in
theorem pm_mc_10 : Cond.code yX1_keep cX1_keep 2 (none) ∈ lw_tbl := List.mem_of_getElem? (i := 1147) rfl
set_option maxRecDepth 100000 in
theorem pm_mi_10 : Cond.instanceMethod yX1_keep ∈ lw_tbl := List.mem_of_getElem? (i := 1145) rfl
set_option maxRecDepth 100000 in
theorem pm_me_10 : Cond.selects (pm_R 1) yX1_keep yX1_keep ∈ lw_tbl := List.mem_of_getElem? (i := 1146) rfl
set_option maxRecDepth 100000 in
theorem pm_mc_11 : Cond.code yX2_bindAlt cX2_bindAlt 7 (some (.boolean)) ∈ lw_tbl := List.mem_of_getElem? (i := 733) rfl
set_option maxRecDepth 100000 in
theorem pm_mi_11 : Cond.instanceMethod yX2_bindAlt ∈ lw_tbl := List.mem_of_getElem? (i := 732) rfl
set_option maxRecDepth 100000 in
theorem pm_me_11 : Cond.selects (pm_R 2) yX2_bindAlt yX2_bindAlt ∈ lw_tbl := List.mem_of_getElem? (i := 17) rfl
set_option maxRecDepth 100000 in
theorem pm_mc_12 : Cond.code yX2_bindParts cX2_bindParts 3 (some (.boolean)) ∈ lw_tbl := List.mem_of_getElem? (i := 729) rfl
set_option maxRecDepth 100000 in
theorem pm_mi_12 : Cond.instanceMethod yX2_bindParts ∈ lw_tbl := List.mem_of_getElem? (i := 728) rfl
set_option maxRecDepth 100000 in
theorem pm_me_12 : Cond.selects (pm_R 2) yX2_bindParts yX2_bindParts ∈ lw_tbl := List.mem_of_getElem? (i := 16) rfl
set_option maxRecDepth 100000 in
theorem pm_mc_13 : Cond.code yX2_pass cX2_pass 2 (some (.boolean)) ∈ lw_tbl := List.mem_of_getElem? (i := 675) rfl
set_option maxRecDepth 100000 in
theorem pm_mi_13 : Cond.instanceMethod yX2_pass ∈ lw_tbl := List.mem_of_getElem? (i := 674) rfl
set_option maxRecDepth 100000 in
theorem pm_me_13 : Cond.selects (pm_R 2) yX2_pass yX2_pass ∈ lw_tbl := List.mem_of_getElem? (i := 5) rfl
set_option maxRecDepth 100000 in
theorem pm_mc_14 : Cond.code yX2_passFirst cX2_passFirst 2 (some (.boolean)) ∈ lw_tbl := List.mem_of_getElem? (i := 671) rfl
set_option maxRecDepth 100000 in
theorem pm_mi_14 : Cond.instanceMethod yX2_passFirst ∈ lw_tbl := List.mem_of_getElem? (i := 670) rfl
set_option maxRecDepth 100000 in
theorem pm_me_14 : Cond.selects (pm_R 2) yX2_passFirst yX2_passFirst ∈ lw_tbl := List.mem_of_getElem? (i := 4) rfl
set_option maxRecDepth 100000 in
theorem pm_mc_15 : Cond.code yX2_passNewName cX2_passNewName 1 (some (.boolean)) ∈ lw_tbl := List.mem_of_getElem? (i := 681) rfl
set_option maxRecDepth 100000 in
theorem pm_mi_15 : Cond.instanceMethod yX2_passNewName ∈ lw_tbl := List.mem_of_getElem? (i := 680) rfl
set_option maxRecDepth 100000 in
theorem pm_me_15 : Cond.selects (pm_R 2) yX2_passNewName yX2_passNewName ∈ lw_tbl := List.mem_of_getElem? (i := 6) rfl
set_option maxRecDepth 100000 in
theorem pm_mc_16 : Cond.code yX2_passNumber cX2_passNumber 3 (some (.boolean)) ∈ lw_tbl := List.mem_of_getElem? (i := 693) rfl
set_option maxRecDepth 100000 in
theorem pm_mi_16 : Cond.instanceMethod yX2_passNumber ∈ lw_tbl := List.mem_of_getElem? (i := 692) rfl
set_option maxRecDepth 100000 in
theorem pm_me_16 : Cond.selects (pm_R 2) yX2_passNumber yX2_passNumber ∈ lw_tbl := List.mem_of_getElem? (i := 8) rfl
set_option maxRecDepth 100000 in
theorem pm_mc_17 : Cond.code yX2_passPairName cX2_passPairName 3 (some (.boolean)) ∈ lw_tbl := List.mem_of_getElem? (i := 705) rfl
set_option maxRecDepth 100000 in
theorem pm_mi_17 : Cond.instanceMethod yX2_passPairName ∈ lw_tbl := List.mem_of_getElem? (i := 704) rfl
set_option maxRecDepth 100000 in
theorem pm_me_17 : Cond.selects (pm_R 2) yX2_passPairName yX2_passPairName ∈ lw_tbl := List.mem_of_getElem? (i := 11) rfl
set_option maxRecDepth 100000 in
theorem pm_mc_18 : Cond.code yX2_readAlt cX2_readAlt 2 (some (.boolean)) ∈ lw_tbl := List.mem_of_getElem? (i := 717) rfl
set_option maxRecDepth 100000 in
theorem pm_mi_18 : Cond.instanceMethod yX2_readAlt ∈ lw_tbl := List.mem_of_getElem? (i := 716) rfl
set_option maxRecDepth 100000 in
theorem pm_me_18 : Cond.selects (pm_R 2) yX2_readAlt yX2_readAlt ∈ lw_tbl := List.mem_of_getElem? (i := 13) rfl
set_option maxRecDepth 100000 in
theorem pm_mc_19 : Cond.code yX2_readLength cX2_readLength 2 (some (.boolean)) ∈ lw_tbl := List.mem_of_getElem? (i := 721) rfl
set_option maxRecDepth 100000 in
theorem pm_mi_19 : Cond.instanceMethod yX2_readLength ∈ lw_tbl := List.mem_of_getElem? (i := 720) rfl
set_option maxRecDepth 100000 in
theorem pm_me_19 : Cond.selects (pm_R 2) yX2_readLength yX2_readLength ∈ lw_tbl := List.mem_of_getElem? (i := 14) rfl
set_option maxRecDepth 100000 in
theorem pm_mc_20 : Cond.code yX2_readPair cX2_readPair 5 (some (.boolean)) ∈ lw_tbl := List.mem_of_getElem? (i := 697) rfl
set_option maxRecDepth 100000 in
theorem pm_mi_20 : Cond.instanceMethod yX2_readPair ∈ lw_tbl := List.mem_of_getElem? (i := 696) rfl
set_option maxRecDepth 100000 in
theorem pm_me_20 : Cond.selects (pm_R 2) yX2_readPair yX2_readPair ∈ lw_tbl := List.mem_of_getElem? (i := 9) rfl
set_option maxRecDepth 100000 in
theorem pm_mc_21 : Cond.code yX2_readRule cX2_readRule 5 (some (.boolean)) ∈ lw_tbl := List.mem_of_getElem? (i := 713) rfl
set_option maxRecDepth 100000 in
theorem pm_mi_21 : Cond.instanceMethod yX2_readRule ∈ lw_tbl := List.mem_of_getElem? (i := 712) rfl
set_option maxRecDepth 100000 in
theorem pm_me_21 : Cond.selects (pm_R 2) yX2_readRule yX2_readRule ∈ lw_tbl := List.mem_of_getElem? (i := 12) rfl
set_option maxRecDepth 100000 in
theorem pm_mc_22 : Cond.code yX2_readTurns cX2_readTurns 3 (some (.boolean)) ∈ lw_tbl := List.mem_of_getElem? (i := 725) rfl
set_option maxRecDepth 100000 in
theorem pm_mi_22 : Cond.instanceMethod yX2_readTurns ∈ lw_tbl := List.mem_of_getElem? (i := 724) rfl
set_option maxRecDepth 100000 in
theorem pm_me_22 : Cond.selects (pm_R 2) yX2_readTurns yX2_readTurns ∈ lw_tbl := List.mem_of_getElem? (i := 15) rfl
set_option maxRecDepth 100000 in
theorem pm_mc_23 : Cond.code yX2_readWord cX2_readWord 3 (some (.boolean)) ∈ lw_tbl := List.mem_of_getElem? (i := 667) rfl
set_option maxRecDepth 100000 in
theorem pm_mi_23 : Cond.instanceMethod yX2_readWord ∈ lw_tbl := List.mem_of_getElem? (i := 666) rfl
set_option maxRecDepth 100000 in
theorem pm_me_23 : Cond.selects (pm_R 2) yX2_readWord yX2_readWord ∈ lw_tbl := List.mem_of_getElem? (i := 3) rfl
set_option maxRecDepth 100000 in
theorem pm_mc_24 : Cond.code yX2_readWorths cX2_readWorths 5 (some (.boolean)) ∈ lw_tbl := List.mem_of_getElem? (i := 689) rfl
set_option maxRecDepth 100000 in
theorem pm_mi_24 : Cond.instanceMethod yX2_readWorths ∈ lw_tbl := List.mem_of_getElem? (i := 688) rfl
set_option maxRecDepth 100000 in
theorem pm_me_24 : Cond.selects (pm_R 2) yX2_readWorths yX2_readWorths ∈ lw_tbl := List.mem_of_getElem? (i := 7) rfl
set_option maxRecDepth 100000 in
theorem pm_mc_25 : Cond.code yX2_readsInto cX2_readsInto 6 (some (.boolean)) ∈ lw_tbl := List.mem_of_getElem? (i := 635) rfl
set_option maxRecDepth 100000 in
theorem pm_mi_25 : Cond.instanceMethod yX2_readsInto ∈ lw_tbl := List.mem_of_getElem? (i := 633) rfl
set_option maxRecDepth 100000 in
theorem pm_me_25 : Cond.selects (pm_R 2) yX2_readsInto yX2_readsInto ∈ lw_tbl := List.mem_of_getElem? (i := 634) rfl
set_option maxRecDepth 100000 in
theorem pm_mc_26 : Cond.code yX2_symbolAtHand cX2_symbolAtHand 1 (some (.int)) ∈ lw_tbl := List.mem_of_getElem? (i := 701) rfl
set_option maxRecDepth 100000 in
theorem pm_mi_26 : Cond.instanceMethod yX2_symbolAtHand ∈ lw_tbl := List.mem_of_getElem? (i := 700) rfl
set_option maxRecDepth 100000 in
theorem pm_me_26 : Cond.selects (pm_R 2) yX2_symbolAtHand yX2_symbolAtHand ∈ lw_tbl := List.mem_of_getElem? (i := 10) rfl
set_option maxRecDepth 100000 in
theorem pm_mc_27 : Cond.code yX3_better cX3_better 3 (some (.int)) ∈ lw_tbl := List.mem_of_getElem? (i := 1001) rfl
set_option maxRecDepth 100000 in
theorem pm_ms_27 : Cond.static yX3_better ∈ lw_tbl := List.mem_of_getElem? (i := 1000) rfl
set_option maxRecDepth 100000 in
theorem pm_mc_28 : Cond.code yX3_clearResults cX3_clearResults 4 (none) ∈ lw_tbl := List.mem_of_getElem? (i := 960) rfl
set_option maxRecDepth 100000 in
theorem pm_mi_28 : Cond.instanceMethod yX3_clearResults ∈ lw_tbl := List.mem_of_getElem? (i := 959) rfl
set_option maxRecDepth 100000 in
theorem pm_me_28 : Cond.selects (pm_R 3) yX3_clearResults yX3_clearResults ∈ lw_tbl := List.mem_of_getElem? (i := 35) rfl
set_option maxRecDepth 100000 in
theorem pm_mc_29 : Cond.code yX3_endOf cX3_endOf 3 (some (.int)) ∈ lw_tbl := List.mem_of_getElem? (i := 956) rfl
set_option maxRecDepth 100000 in
theorem pm_mi_29 : Cond.instanceMethod yX3_endOf ∈ lw_tbl := List.mem_of_getElem? (i := 954) rfl
set_option maxRecDepth 100000 in
theorem pm_me_29 : Cond.selects (pm_R 3) yX3_endOf yX3_endOf ∈ lw_tbl := List.mem_of_getElem? (i := 955) rfl
set_option maxRecDepth 100000 in
theorem pm_mc_30 : Cond.code yX3_findLotEnds cX3_findLotEnds 4 (none) ∈ lw_tbl := List.mem_of_getElem? (i := 1080) rfl
set_option maxRecDepth 100000 in
theorem pm_mi_30 : Cond.instanceMethod yX3_findLotEnds ∈ lw_tbl := List.mem_of_getElem? (i := 1078) rfl
set_option maxRecDepth 100000 in
theorem pm_me_30 : Cond.selects (pm_R 3) yX3_findLotEnds yX3_findLotEnds ∈ lw_tbl := List.mem_of_getElem? (i := 1079) rfl
set_option maxRecDepth 100000 in
theorem pm_mc_31 : Cond.code yX3_firstSwap cX3_firstSwap 9 (some (.int)) ∈ lw_tbl := List.mem_of_getElem? (i := 1022) rfl
set_option maxRecDepth 100000 in
theorem pm_mi_31 : Cond.instanceMethod yX3_firstSwap ∈ lw_tbl := List.mem_of_getElem? (i := 1020) rfl
set_option maxRecDepth 100000 in
theorem pm_me_31 : Cond.selects (pm_R 3) yX3_firstSwap yX3_firstSwap ∈ lw_tbl := List.mem_of_getElem? (i := 1021) rfl
set_option maxRecDepth 100000 in
theorem pm_mc_32 : Cond.code yX3_forget cX3_forget 1 (none) ∈ lw_tbl := List.mem_of_getElem? (i := 757) rfl
set_option maxRecDepth 100000 in
theorem pm_mi_32 : Cond.instanceMethod yX3_forget ∈ lw_tbl := List.mem_of_getElem? (i := 755) rfl
set_option maxRecDepth 100000 in
theorem pm_me_32 : Cond.selects (pm_R 3) yX3_forget yX3_forget ∈ lw_tbl := List.mem_of_getElem? (i := 756) rfl
set_option maxRecDepth 100000 in
theorem pm_mc_33 : Cond.code yX3_heldBy cX3_heldBy 6 (some (.int)) ∈ lw_tbl := List.mem_of_getElem? (i := 994) rfl
set_option maxRecDepth 100000 in
theorem pm_mi_33 : Cond.instanceMethod yX3_heldBy ∈ lw_tbl := List.mem_of_getElem? (i := 992) rfl
set_option maxRecDepth 100000 in
theorem pm_me_33 : Cond.selects (pm_R 3) yX3_heldBy yX3_heldBy ∈ lw_tbl := List.mem_of_getElem? (i := 993) rfl
set_option maxRecDepth 100000 in
theorem pm_mc_34 : Cond.code yX3_isBribed cX3_isBribed 3 (some (.boolean)) ∈ lw_tbl := List.mem_of_getElem? (i := 976) rfl
set_option maxRecDepth 100000 in
theorem pm_mi_34 : Cond.instanceMethod yX3_isBribed ∈ lw_tbl := List.mem_of_getElem? (i := 975) rfl
set_option maxRecDepth 100000 in
theorem pm_me_34 : Cond.selects (pm_R 3) yX3_isBribed yX3_isBribed ∈ lw_tbl := List.mem_of_getElem? (i := 38) rfl
set_option maxRecDepth 100000 in
theorem pm_mc_35 : Cond.code yX3_leastBribe cX3_leastBribe 6 (some (.int)) ∈ lw_tbl := List.mem_of_getElem? (i := 1034) rfl
set_option maxRecDepth 100000 in
theorem pm_mi_35 : Cond.instanceMethod yX3_leastBribe ∈ lw_tbl := List.mem_of_getElem? (i := 1032) rfl
set_option maxRecDepth 100000 in
theorem pm_me_35 : Cond.selects (pm_R 3) yX3_leastBribe yX3_leastBribe ∈ lw_tbl := List.mem_of_getElem? (i := 1033) rfl
set_option maxRecDepth 100000 in
theorem pm_mc_36 : Cond.code yX3_meansMore cX3_meansMore 4 (some (.boolean)) ∈ lw_tbl := List.mem_of_getElem? (i := 1026) rfl
set_option maxRecDepth 100000 in
theorem pm_ms_36 : Cond.static yX3_meansMore ∈ lw_tbl := List.mem_of_getElem? (i := 1025) rfl
set_option maxRecDepth 100000 in
theorem pm_mc_37 : Cond.code yX3_offer cX3_offer 8 (none) ∈ lw_tbl := List.mem_of_getElem? (i := 968) rfl
set_option maxRecDepth 100000 in
theorem pm_mi_37 : Cond.instanceMethod yX3_offer ∈ lw_tbl := List.mem_of_getElem? (i := 967) rfl
set_option maxRecDepth 100000 in
theorem pm_me_37 : Cond.selects (pm_R 3) yX3_offer yX3_offer ∈ lw_tbl := List.mem_of_getElem? (i := 36) rfl
set_option maxRecDepth 100000 in
theorem pm_mc_38 : Cond.code yX3_sumOf cX3_sumOf 5 (some (.int)) ∈ lw_tbl := List.mem_of_getElem? (i := 998) rfl
set_option maxRecDepth 100000 in
theorem pm_ms_38 : Cond.static yX3_sumOf ∈ lw_tbl := List.mem_of_getElem? (i := 997) rfl
set_option maxRecDepth 100000 in
theorem pm_mc_39 : Cond.code yX3_worthTo cX3_worthTo 5 (some (.int)) ∈ lw_tbl := List.mem_of_getElem? (i := 972) rfl
set_option maxRecDepth 100000 in
theorem pm_mi_39 : Cond.instanceMethod yX3_worthTo ∈ lw_tbl := List.mem_of_getElem? (i := 971) rfl
set_option maxRecDepth 100000 in
theorem pm_me_39 : Cond.selects (pm_R 3) yX3_worthTo yX3_worthTo ∈ lw_tbl := List.mem_of_getElem? (i := 37) rfl
set_option maxRecDepth 100000 in
theorem pm_mc_40 : Cond.code yX4_empty cX4_empty 2 (none) ∈ lw_tbl := List.mem_of_getElem? (i := 639) rfl
set_option maxRecDepth 100000 in
theorem pm_mi_40 : Cond.instanceMethod yX4_empty ∈ lw_tbl := List.mem_of_getElem? (i := 637) rfl
set_option maxRecDepth 100000 in
theorem pm_me_40 : Cond.selects (pm_R 4) yX4_empty yX4_empty ∈ lw_tbl := List.mem_of_getElem? (i := 638) rfl
set_option maxRecDepth 100000 in
theorem pm_mc_41 : Cond.code yX4_findShortest cX4_findShortest 7 (none) ∈ lw_tbl := List.mem_of_getElem? (i := 1042) rfl
set_option maxRecDepth 100000 in
theorem pm_mi_41 : Cond.instanceMethod yX4_findShortest ∈ lw_tbl := List.mem_of_getElem? (i := 1040) rfl
set_option maxRecDepth 100000 in
theorem pm_me_41 : Cond.selects (pm_R 4) yX4_findShortest yX4_findShortest ∈ lw_tbl := List.mem_of_getElem? (i := 1041) rfl
set_option maxRecDepth 100000 in
theorem pm_mc_42 : Cond.code yX4_hasPlace cX4_hasPlace 2 (some (.boolean)) ∈ lw_tbl := List.mem_of_getElem? (i := 782) rfl
set_option maxRecDepth 100000 in
theorem pm_mi_42 : Cond.instanceMethod yX4_hasPlace ∈ lw_tbl := List.mem_of_getElem? (i := 780) rfl
set_option maxRecDepth 100000 in
theorem pm_me_42 : Cond.selects (pm_R 4) yX4_hasPlace yX4_hasPlace ∈ lw_tbl := List.mem_of_getElem? (i := 781) rfl
set_option maxRecDepth 100000 in
theorem pm_mc_43 : Cond.code yX4_hasWord cX4_hasWord 2 (some (.boolean)) ∈ lw_tbl := List.mem_of_getElem? (i := 709) rfl
set_option maxRecDepth 100000 in
theorem pm_mi_43 : Cond.instanceMethod yX4_hasWord ∈ lw_tbl := List.mem_of_getElem? (i := 707) rfl
set_option maxRecDepth 100000 in
theorem pm_me_43 : Cond.selects (pm_R 4) yX4_hasWord yX4_hasWord ∈ lw_tbl := List.mem_of_getElem? (i := 708) rfl
set_option maxRecDepth 100000 in
theorem pm_mc_44 : Cond.code yX4_meaningBehind cX4_meaningBehind 5 (some (.int)) ∈ lw_tbl := List.mem_of_getElem? (i := 908) rfl
set_option maxRecDepth 100000 in
theorem pm_mi_44 : Cond.instanceMethod yX4_meaningBehind ∈ lw_tbl := List.mem_of_getElem? (i := 906) rfl
set_option maxRecDepth 100000 in
theorem pm_me_44 : Cond.selects (pm_R 4) yX4_meaningBehind yX4_meaningBehind ∈ lw_tbl := List.mem_of_getElem? (i := 907) rfl
set_option maxRecDepth 100000 in
theorem pm_mc_45 : Cond.code yX4_meaningOf cX4_meaningOf 6 (some (.int)) ∈ lw_tbl := List.mem_of_getElem? (i := 904) rfl
set_option maxRecDepth 100000 in
theorem pm_mi_45 : Cond.instanceMethod yX4_meaningOf ∈ lw_tbl := List.mem_of_getElem? (i := 902) rfl
set_option maxRecDepth 100000 in
theorem pm_me_45 : Cond.selects (pm_R 4) yX4_meaningOf yX4_meaningOf ∈ lw_tbl := List.mem_of_getElem? (i := 903) rfl
set_option maxRecDepth 100000 in
theorem pm_mc_46 : Cond.code yX4_rulesNextTo cX4_rulesNextTo 7 (some (.int)) ∈ lw_tbl := List.mem_of_getElem? (i := 1054) rfl
set_option maxRecDepth 100000 in
theorem pm_mi_46 : Cond.instanceMethod yX4_rulesNextTo ∈ lw_tbl := List.mem_of_getElem? (i := 1053) rfl
set_option maxRecDepth 100000 in
theorem pm_me_46 : Cond.selects (pm_R 4) yX4_rulesNextTo yX4_rulesNextTo ∈ lw_tbl := List.mem_of_getElem? (i := 42) rfl
set_option maxRecDepth 100000 in
theorem pm_mc_47 : Cond.code yX4_rulesOfUse cX4_rulesOfUse 5 (some (.int)) ∈ lw_tbl := List.mem_of_getElem? (i := 1050) rfl
set_option maxRecDepth 100000 in
theorem pm_mi_47 : Cond.instanceMethod yX4_rulesOfUse ∈ lw_tbl := List.mem_of_getElem? (i := 1048) rfl
set_option maxRecDepth 100000 in
theorem pm_me_47 : Cond.selects (pm_R 4) yX4_rulesOfUse yX4_rulesOfUse ∈ lw_tbl := List.mem_of_getElem? (i := 1049) rfl
set_option maxRecDepth 100000 in
theorem pm_mc_48 : Cond.code yX4_sizeOfAlt cX4_sizeOfAlt 6 (some (.int)) ∈ lw_tbl := List.mem_of_getElem? (i := 1046) rfl
set_option maxRecDepth 100000 in
theorem pm_mi_48 : Cond.instanceMethod yX4_sizeOfAlt ∈ lw_tbl := List.mem_of_getElem? (i := 1045) rfl
set_option maxRecDepth 100000 in
theorem pm_me_48 : Cond.selects (pm_R 4) yX4_sizeOfAlt yX4_sizeOfAlt ∈ lw_tbl := List.mem_of_getElem? (i := 41) rfl
set_option maxRecDepth 100000 in
theorem pm_mc_49 : Cond.code yX4_symbolOf cX4_symbolOf 4 (some (.int)) ∈ lw_tbl := List.mem_of_getElem? (i := 685) rfl
set_option maxRecDepth 100000 in
theorem pm_mi_49 : Cond.instanceMethod yX4_symbolOf ∈ lw_tbl := List.mem_of_getElem? (i := 683) rfl
set_option maxRecDepth 100000 in
theorem pm_me_49 : Cond.selects (pm_R 4) yX4_symbolOf yX4_symbolOf ∈ lw_tbl := List.mem_of_getElem? (i := 684) rfl
set_option maxRecDepth 100000 in
theorem pm_mc_50 : Cond.code yX4_turnAt cX4_turnAt 2 (some (.int)) ∈ lw_tbl := List.mem_of_getElem? (i := 790) rfl
set_option maxRecDepth 100000 in
theorem pm_mi_50 : Cond.instanceMethod yX4_turnAt ∈ lw_tbl := List.mem_of_getElem? (i := 788) rfl
set_option maxRecDepth 100000 in
theorem pm_me_50 : Cond.selects (pm_R 4) yX4_turnAt yX4_turnAt ∈ lw_tbl := List.mem_of_getElem? (i := 789) rfl
set_option maxRecDepth 100000 in
theorem pm_mc_51 : Cond.code yX5_beginColumn cX5_beginColumn 9 (none) ∈ lw_tbl := List.mem_of_getElem? (i := 810) rfl
set_option maxRecDepth 100000 in
theorem pm_mi_51 : Cond.instanceMethod yX5_beginColumn ∈ lw_tbl := List.mem_of_getElem? (i := 809) rfl
set_option maxRecDepth 100000 in
theorem pm_me_51 : Cond.selects (pm_R 5) yX5_beginColumn yX5_beginColumn ∈ lw_tbl := List.mem_of_getElem? (i := 22) rfl
set_option maxRecDepth 100000 in
theorem pm_mc_52 : Cond.code yX5_fillColumn cX5_fillColumn 12 (none) ∈ lw_tbl := List.mem_of_getElem? (i := 806) rfl
set_option maxRecDepth 100000 in
theorem pm_mi_52 : Cond.instanceMethod yX5_fillColumn ∈ lw_tbl := List.mem_of_getElem? (i := 805) rfl
set_option maxRecDepth 100000 in
theorem pm_me_52 : Cond.selects (pm_R 5) yX5_fillColumn yX5_fillColumn ∈ lw_tbl := List.mem_of_getElem? (i := 21) rfl
set_option maxRecDepth 100000 in
theorem pm_mc_53 : Cond.code yX5_goOn cX5_goOn 5 (none) ∈ lw_tbl := List.mem_of_getElem? (i := 944) rfl
set_option maxRecDepth 100000 in
theorem pm_mi_53 : Cond.instanceMethod yX5_goOn ∈ lw_tbl := List.mem_of_getElem? (i := 942) rfl
set_option maxRecDepth 100000 in
theorem pm_me_53 : Cond.selects (pm_R 5) yX5_goOn yX5_goOn ∈ lw_tbl := List.mem_of_getElem? (i := 943) rfl
set_option maxRecDepth 100000 in
theorem pm_mc_54 : Cond.code yX5_nextWords cX5_nextWords 5 (some (.int)) ∈ lw_tbl := List.mem_of_getElem? (i := 820) rfl
set_option maxRecDepth 100000 in
theorem pm_mi_54 : Cond.instanceMethod yX5_nextWords ∈ lw_tbl := List.mem_of_getElem? (i := 818) rfl
set_option maxRecDepth 100000 in
theorem pm_me_54 : Cond.selects (pm_R 5) yX5_nextWords yX5_nextWords ∈ lw_tbl := List.mem_of_getElem? (i := 819) rfl
set_option maxRecDepth 100000 in
theorem pm_mc_55 : Cond.code yX5_readBeginning cX5_readBeginning 5 (none) ∈ lw_tbl := List.mem_of_getElem? (i := 802) rfl
set_option maxRecDepth 100000 in
theorem pm_mi_55 : Cond.instanceMethod yX5_readBeginning ∈ lw_tbl := List.mem_of_getElem? (i := 800) rfl
set_option maxRecDepth 100000 in
theorem pm_me_55 : Cond.selects (pm_R 5) yX5_readBeginning yX5_readBeginning ∈ lw_tbl := List.mem_of_getElem? (i := 801) rfl
set_option maxRecDepth 100000 in
theorem pm_mc_56 : Cond.code yX5_startsOfAlt cX5_startsOfAlt 14 (some (.long)) ∈ lw_tbl := List.mem_of_getElem? (i := 815) rfl
set_option maxRecDepth 100000 in
theorem pm_mi_56 : Cond.instanceMethod yX5_startsOfAlt ∈ lw_tbl := List.mem_of_getElem? (i := 814) rfl
set_option maxRecDepth 100000 in
theorem pm_me_56 : Cond.selects (pm_R 5) yX5_startsOfAlt yX5_startsOfAlt ∈ lw_tbl := List.mem_of_getElem? (i := 23) rfl
set_option maxRecDepth 100000 in
theorem pm_mc_57 : Cond.code yX6_agree cX6_agree 7 (some (.boolean)) ∈ lw_tbl := List.mem_of_getElem? (i := 1138) rfl
set_option maxRecDepth 100000 in
theorem pm_mi_57 : Cond.instanceMethod yX6_agree ∈ lw_tbl := List.mem_of_getElem? (i := 1136) rfl
set_option maxRecDepth 100000 in
theorem pm_me_57 : Cond.selects (pm_R 6) yX6_agree yX6_agree ∈ lw_tbl := List.mem_of_getElem? (i := 1137) rfl
set_option maxRecDepth 100000 in
theorem pm_mc_58 : Cond.code yX6_takeBack cX6_takeBack 2 (some (.boolean)) ∈ lw_tbl := List.mem_of_getElem? (i := 1125) rfl
set_option maxRecDepth 100000 in
theorem pm_mi_58 : Cond.instanceMethod yX6_takeBack ∈ lw_tbl := List.mem_of_getElem? (i := 1123) rfl
set_option maxRecDepth 100000 in
theorem pm_me_58 : Cond.selects (pm_R 6) yX6_takeBack yX6_takeBack ∈ lw_tbl := List.mem_of_getElem? (i := 1124) rfl
set_option maxRecDepth 100000 in
theorem pm_mc_59 : Cond.code yX6_tell cX6_tell 4 (some (.int)) ∈ lw_tbl := List.mem_of_getElem? (i := 1117) rfl
set_option maxRecDepth 100000 in
theorem pm_mi_59 : Cond.instanceMethod yX6_tell ∈ lw_tbl := List.mem_of_getElem? (i := 1115) rfl
set_option maxRecDepth 100000 in
theorem pm_me_59 : Cond.selects (pm_R 6) yX6_tell yX6_tell ∈ lw_tbl := List.mem_of_getElem? (i := 1116) rfl
set_option maxRecDepth 100000 in
theorem pm_mc_60 : Cond.code yX7_countOf cX7_countOf 6 (some (.int)) ∈ lw_tbl := List.mem_of_getElem? (i := 884) rfl
set_option maxRecDepth 100000 in
theorem pm_mi_60 : Cond.instanceMethod yX7_countOf ∈ lw_tbl := List.mem_of_getElem? (i := 882) rfl
set_option maxRecDepth 100000 in
theorem pm_me_60 : Cond.selects (pm_R 7) yX7_countOf yX7_countOf ∈ lw_tbl := List.mem_of_getElem? (i := 883) rfl
set_option maxRecDepth 100000 in
theorem pm_mc_61 : Cond.code yX7_fillColumn cX7_fillColumn 9 (none) ∈ lw_tbl := List.mem_of_getElem? (i := 888) rfl
set_option maxRecDepth 100000 in
theorem pm_mi_61 : Cond.instanceMethod yX7_fillColumn ∈ lw_tbl := List.mem_of_getElem? (i := 887) rfl
set_option maxRecDepth 100000 in
theorem pm_me_61 : Cond.selects (pm_R 7) yX7_fillColumn yX7_fillColumn ∈ lw_tbl := List.mem_of_getElem? (i := 27) rfl
set_option maxRecDepth 100000 in
theorem pm_mc_62 : Cond.code yX7_forget cX7_forget 1 (none) ∈ lw_tbl := List.mem_of_getElem? (i := 749) rfl
set_option maxRecDepth 100000 in
theorem pm_mi_62 : Cond.instanceMethod yX7_forget ∈ lw_tbl := List.mem_of_getElem? (i := 747) rfl
set_option maxRecDepth 100000 in
theorem pm_me_62 : Cond.selects (pm_R 7) yX7_forget yX7_forget ∈ lw_tbl := List.mem_of_getElem? (i := 748) rfl
set_option maxRecDepth 100000 in
theorem pm_mc_63 : Cond.code yX7_waysOfAlt cX7_waysOfAlt 12 (some (.int)) ∈ lw_tbl := List.mem_of_getElem? (i := 892) rfl
set_option maxRecDepth 100000 in
theorem pm_mi_63 : Cond.instanceMethod yX7_waysOfAlt ∈ lw_tbl := List.mem_of_getElem? (i := 891) rfl
set_option maxRecDepth 100000 in
theorem pm_me_63 : Cond.selects (pm_R 7) yX7_waysOfAlt yX7_waysOfAlt ∈ lw_tbl := List.mem_of_getElem? (i := 28) rfl
set_option maxRecDepth 100000 in
theorem pm_mc_64 : Cond.code yX8_advance cX8_advance 2 (none) ∈ lw_tbl := List.mem_of_getElem? (i := 651) rfl
set_option maxRecDepth 100000 in
theorem pm_mi_64 : Cond.instanceMethod yX8_advance ∈ lw_tbl := List.mem_of_getElem? (i := 649) rfl
set_option maxRecDepth 100000 in
theorem pm_me_64 : Cond.selects (pm_R 8) yX8_advance yX8_advance ∈ lw_tbl := List.mem_of_getElem? (i := 650) rfl
set_option maxRecDepth 100000 in
theorem pm_mc_65 : Cond.code yX8_begin cX8_begin 3 (none) ∈ lw_tbl := List.mem_of_getElem? (i := 644) rfl
set_option maxRecDepth 100000 in
theorem pm_mi_65 : Cond.instanceMethod yX8_begin ∈ lw_tbl := List.mem_of_getElem? (i := 642) rfl
set_option maxRecDepth 100000 in
theorem pm_me_65 : Cond.selects (pm_R 8) yX8_begin yX8_begin ∈ lw_tbl := List.mem_of_getElem? (i := 643) rfl
set_option maxRecDepth 100000 in
theorem pm_mc_66 : Cond.code yX8_refuse cX8_refuse 2 (some (.boolean)) ∈ lw_tbl := List.mem_of_getElem? (i := 663) rfl
set_option maxRecDepth 100000 in
theorem pm_mi_66 : Cond.instanceMethod yX8_refuse ∈ lw_tbl := List.mem_of_getElem? (i := 661) rfl
set_option maxRecDepth 100000 in
theorem pm_me_66 : Cond.selects (pm_R 8) yX8_refuse yX8_refuse ∈ lw_tbl := List.mem_of_getElem? (i := 662) rfl
set_option maxRecDepth 100000 in
theorem pm_mc_67 : Cond.code yX8_takeDigits cX8_takeDigits 2 (none) ∈ lw_tbl := List.mem_of_getElem? (i := 659) rfl
set_option maxRecDepth 100000 in
theorem pm_mi_67 : Cond.instanceMethod yX8_takeDigits ∈ lw_tbl := List.mem_of_getElem? (i := 658) rfl
set_option maxRecDepth 100000 in
theorem pm_me_67 : Cond.selects (pm_R 8) yX8_takeDigits yX8_takeDigits ∈ lw_tbl := List.mem_of_getElem? (i := 2) rfl
set_option maxRecDepth 100000 in
theorem pm_mc_68 : Cond.code yX8_takeLetters cX8_takeLetters 2 (none) ∈ lw_tbl := List.mem_of_getElem? (i := 655) rfl
set_option maxRecDepth 100000 in
theorem pm_mi_68 : Cond.instanceMethod yX8_takeLetters ∈ lw_tbl := List.mem_of_getElem? (i := 654) rfl
set_option maxRecDepth 100000 in
theorem pm_me_68 : Cond.selects (pm_R 8) yX8_takeLetters yX8_takeLetters ∈ lw_tbl := List.mem_of_getElem? (i := 1) rfl
set_option maxRecDepth 100000 in
theorem pm_mc_69 : Cond.code yX9_add cX9_add 6 (none) ∈ lw_tbl := List.mem_of_getElem? (i := 935) rfl
set_option maxRecDepth 100000 in
theorem pm_mi_69 : Cond.instanceMethod yX9_add ∈ lw_tbl := List.mem_of_getElem? (i := 934) rfl
set_option maxRecDepth 100000 in
theorem pm_me_69 : Cond.selects (pm_R 9) yX9_add yX9_add ∈ lw_tbl := List.mem_of_getElem? (i := 32) rfl
set_option maxRecDepth 100000 in
theorem pm_mc_70 : Cond.code yX9_addRoot cX9_addRoot 4 (none) ∈ lw_tbl := List.mem_of_getElem? (i := 924) rfl
set_option maxRecDepth 100000 in
theorem pm_mi_70 : Cond.instanceMethod yX9_addRoot ∈ lw_tbl := List.mem_of_getElem? (i := 923) rfl
set_option maxRecDepth 100000 in
theorem pm_me_70 : Cond.selects (pm_R 9) yX9_addRoot yX9_addRoot ∈ lw_tbl := List.mem_of_getElem? (i := 30) rfl
set_option maxRecDepth 100000 in
theorem pm_mc_71 : Cond.code yX9_forget cX9_forget 1 (none) ∈ lw_tbl := List.mem_of_getElem? (i := 753) rfl
set_option maxRecDepth 100000 in
theorem pm_mi_71 : Cond.instanceMethod yX9_forget ∈ lw_tbl := List.mem_of_getElem? (i := 751) rfl
set_option maxRecDepth 100000 in
theorem pm_me_71 : Cond.selects (pm_R 9) yX9_forget yX9_forget ∈ lw_tbl := List.mem_of_getElem? (i := 752) rfl
set_option maxRecDepth 100000 in
theorem pm_mc_72 : Cond.code yX9_grow cX9_grow 8 (none) ∈ lw_tbl := List.mem_of_getElem? (i := 930) rfl
set_option maxRecDepth 100000 in
theorem pm_mi_72 : Cond.instanceMethod yX9_grow ∈ lw_tbl := List.mem_of_getElem? (i := 929) rfl
set_option maxRecDepth 100000 in
theorem pm_me_72 : Cond.selects (pm_R 9) yX9_grow yX9_grow ∈ lw_tbl := List.mem_of_getElem? (i := 31) rfl
set_option maxRecDepth 100000 in
theorem pm_mc_73 : Cond.code yX9_growBehind cX9_growBehind 5 (none) ∈ lw_tbl := List.mem_of_getElem? (i := 940) rfl
set_option maxRecDepth 100000 in
theorem pm_mi_73 : Cond.instanceMethod yX9_growBehind ∈ lw_tbl := List.mem_of_getElem? (i := 939) rfl
set_option maxRecDepth 100000 in
theorem pm_me_73 : Cond.selects (pm_R 9) yX9_growBehind yX9_growBehind ∈ lw_tbl := List.mem_of_getElem? (i := 33) rfl
set_option maxRecDepth 100000 in
theorem pm_mc_74 : Cond.code yX9_growFrom cX9_growFrom 8 (none) ∈ lw_tbl := List.mem_of_getElem? (i := 920) rfl
set_option maxRecDepth 100000 in
theorem pm_mi_74 : Cond.instanceMethod yX9_growFrom ∈ lw_tbl := List.mem_of_getElem? (i := 918) rfl
set_option maxRecDepth 100000 in
theorem pm_me_74 : Cond.selects (pm_R 9) yX9_growFrom yX9_growFrom ∈ lw_tbl := List.mem_of_getElem? (i := 919) rfl
set_option maxRecDepth 100000 in
theorem pm_mc_75 : Cond.code yX9_hasCharters cX9_hasCharters 1 (some (.boolean)) ∈ lw_tbl := List.mem_of_getElem? (i := 948) rfl
set_option maxRecDepth 100000 in
theorem pm_mi_75 : Cond.instanceMethod yX9_hasCharters ∈ lw_tbl := List.mem_of_getElem? (i := 946) rfl
set_option maxRecDepth 100000 in
theorem pm_me_75 : Cond.selects (pm_R 9) yX9_hasCharters yX9_hasCharters ∈ lw_tbl := List.mem_of_getElem? (i := 947) rfl
set_option maxRecDepth 100000 in
theorem pm_mc_76 : Cond.code yX9_isCharter cX9_isCharter 2 (some (.boolean)) ∈ lw_tbl := List.mem_of_getElem? (i := 964) rfl
set_option maxRecDepth 100000 in
theorem pm_mi_76 : Cond.instanceMethod yX9_isCharter ∈ lw_tbl := List.mem_of_getElem? (i := 962) rfl
set_option maxRecDepth 100000 in
theorem pm_me_76 : Cond.selects (pm_R 9) yX9_isCharter yX9_isCharter ∈ lw_tbl := List.mem_of_getElem? (i := 963) rfl
set_option maxRecDepth 100000 in
theorem pm_mc_77 : Cond.code yX9_wordAt cX9_wordAt 3 (some (.int)) ∈ lw_tbl := List.mem_of_getElem? (i := 980) rfl
set_option maxRecDepth 100000 in
theorem pm_mi_77 : Cond.instanceMethod yX9_wordAt ∈ lw_tbl := List.mem_of_getElem? (i := 978) rfl
set_option maxRecDepth 100000 in
theorem pm_me_77 : Cond.selects (pm_R 9) yX9_wordAt yX9_wordAt ∈ lw_tbl := List.mem_of_getElem? (i := 979) rfl
set_option maxRecDepth 100000 in
theorem pm_mc_78 : Cond.code yX9_wordsInto cX9_wordsInto 4 (none) ∈ lw_tbl := List.mem_of_getElem? (i := 1071) rfl
set_option maxRecDepth 100000 in
theorem pm_mi_78 : Cond.instanceMethod yX9_wordsInto ∈ lw_tbl := List.mem_of_getElem? (i := 1069) rfl
set_option maxRecDepth 100000 in
theorem pm_me_78 : Cond.selects (pm_R 9) yX9_wordsInto yX9_wordsInto ∈ lw_tbl := List.mem_of_getElem? (i := 1070) rfl
set_option maxRecDepth 100000 in
theorem pm_mc_79 : Cond.code yX10_about cX10_about 2 (some (.int)) ∈ lw_tbl := List.mem_of_getElem? (i := 1161) rfl
set_option maxRecDepth 100000 in
theorem pm_mi_79 : Cond.instanceMethod yX10_about ∈ lw_tbl := List.mem_of_getElem? (i := 1159) rfl
set_option maxRecDepth 100000 in
theorem pm_me_79 : Cond.selects (pm_R 10) yX10_about yX10_about ∈ lw_tbl := List.mem_of_getElem? (i := 1160) rfl
set_option maxRecDepth 100000 in
theorem pm_mc_80 : Cond.code yX10_back cX10_back 2 (some (.int)) ∈ lw_tbl := List.mem_of_getElem? (i := 1152) rfl
set_option maxRecDepth 100000 in
theorem pm_mi_80 : Cond.instanceMethod yX10_back ∈ lw_tbl := List.mem_of_getElem? (i := 1150) rfl
set_option maxRecDepth 100000 in
theorem pm_me_80 : Cond.selects (pm_R 10) yX10_back yX10_back ∈ lw_tbl := List.mem_of_getElem? (i := 1151) rfl
set_option maxRecDepth 100000 in
theorem pm_mc_81 : Cond.code yX10_behind cX10_behind 4 (some (.int)) ∈ lw_tbl := List.mem_of_getElem? (i := 774) rfl
set_option maxRecDepth 100000 in
theorem pm_mi_81 : Cond.instanceMethod yX10_behind ∈ lw_tbl := List.mem_of_getElem? (i := 772) rfl
set_option maxRecDepth 100000 in
theorem pm_me_81 : Cond.selects (pm_R 10) yX10_behind yX10_behind ∈ lw_tbl := List.mem_of_getElem? (i := 773) rfl
set_option maxRecDepth 100000 in
theorem pm_mc_82 : Cond.code yX10_best cX10_best 5 (some (.int)) ∈ lw_tbl := List.mem_of_getElem? (i := 1097) rfl
set_option maxRecDepth 100000 in
theorem pm_mi_82 : Cond.instanceMethod yX10_best ∈ lw_tbl := List.mem_of_getElem? (i := 1095) rfl
set_option maxRecDepth 100000 in
theorem pm_me_82 : Cond.selects (pm_R 10) yX10_best yX10_best ∈ lw_tbl := List.mem_of_getElem? (i := 1096) rfl
set_option maxRecDepth 100000 in
theorem pm_mc_83 : Cond.code yX10_bribe cX10_bribe 4 (some (.int)) ∈ lw_tbl := List.mem_of_getElem? (i := 1030) rfl
set_option maxRecDepth 100000 in
theorem pm_mi_83 : Cond.instanceMethod yX10_bribe ∈ lw_tbl := List.mem_of_getElem? (i := 1028) rfl
set_option maxRecDepth 100000 in
theorem pm_me_83 : Cond.selects (pm_R 10) yX10_bribe yX10_bribe ∈ lw_tbl := List.mem_of_getElem? (i := 1029) rfl
set_option maxRecDepth 100000 in
theorem pm_mc_84 : Cond.code yX10_doubtful cX10_doubtful 4 (some (.int)) ∈ lw_tbl := List.mem_of_getElem? (i := 1062) rfl
set_option maxRecDepth 100000 in
theorem pm_mi_84 : Cond.instanceMethod yX10_doubtful ∈ lw_tbl := List.mem_of_getElem? (i := 1060) rfl
set_option maxRecDepth 100000 in
theorem pm_me_84 : Cond.selects (pm_R 10) yX10_doubtful yX10_doubtful ∈ lw_tbl := List.mem_of_getElem? (i := 1061) rfl
set_option maxRecDepth 100000 in
theorem pm_mc_85 : Cond.code yX10_end cX10_end 2 (some (.int)) ∈ lw_tbl := List.mem_of_getElem? (i := 627) rfl
set_option maxRecDepth 100000 in
theorem pm_mi_85 : Cond.instanceMethod yX10_end ∈ lw_tbl := List.mem_of_getElem? (i := 625) rfl
set_option maxRecDepth 100000 in
theorem pm_me_85 : Cond.selects (pm_R 10) yX10_end yX10_end ∈ lw_tbl := List.mem_of_getElem? (i := 626) rfl
set_option maxRecDepth 100000 in
theorem pm_mc_86 : Cond.code yX10_fault cX10_fault 2 (some (.int)) ∈ lw_tbl := List.mem_of_getElem? (i := 761) rfl
set_option maxRecDepth 100000 in
theorem pm_mi_86 : Cond.instanceMethod yX10_fault ∈ lw_tbl := List.mem_of_getElem? (i := 759) rfl
set_option maxRecDepth 100000 in
theorem pm_me_86 : Cond.selects (pm_R 10) yX10_fault yX10_fault ∈ lw_tbl := List.mem_of_getElem? (i := 760) rfl
set_option maxRecDepth 100000 in
theorem pm_mc_87 : Cond.code yX10_feed cX10_feed 6 (some (.int)) ∈ lw_tbl := List.mem_of_getElem? (i := 619) rfl
set_option maxRecDepth 100000 in
theorem pm_mi_87 : Cond.instanceMethod yX10_feed ∈ lw_tbl := List.mem_of_getElem? (i := 617) rfl
set_option maxRecDepth 100000 in
theorem pm_me_87 : Cond.selects (pm_R 10) yX10_feed yX10_feed ∈ lw_tbl := List.mem_of_getElem? (i := 618) rfl
set_option maxRecDepth 100000 in
theorem pm_mc_88 : Cond.code yX10_fit cX10_fit 4 (some (.int)) ∈ lw_tbl := List.mem_of_getElem? (i := 1089) rfl
set_option maxRecDepth 100000 in
theorem pm_mi_88 : Cond.instanceMethod yX10_fit ∈ lw_tbl := List.mem_of_getElem? (i := 1087) rfl
set_option maxRecDepth 100000 in
theorem pm_me_88 : Cond.selects (pm_R 10) yX10_fit yX10_fit ∈ lw_tbl := List.mem_of_getElem? (i := 1088) rfl
set_option maxRecDepth 100000 in
theorem pm_mc_89 : Cond.code yX10_forgetOldPort cX10_forgetOldPort 2 (none) ∈ lw_tbl := List.mem_of_getElem? (i := 737) rfl
set_option maxRecDepth 100000 in
theorem pm_mi_89 : Cond.instanceMethod yX10_forgetOldPort ∈ lw_tbl := List.mem_of_getElem? (i := 736) rfl
set_option maxRecDepth 100000 in
theorem pm_me_89 : Cond.selects (pm_R 10) yX10_forgetOldPort yX10_forgetOldPort ∈ lw_tbl := List.mem_of_getElem? (i := 18) rfl
set_option maxRecDepth 100000 in
theorem pm_mc_90 : Cond.code yX10_growEarnest cX10_growEarnest 2 (some (.object "GuildCharter$Tree")) ∈ lw_tbl := List.mem_of_getElem? (i := 916) rfl
set_option maxRecDepth 100000 in
theorem pm_mi_90 : Cond.instanceMethod yX10_growEarnest ∈ lw_tbl := List.mem_of_getElem? (i := 915) rfl
set_option maxRecDepth 100000 in
theorem pm_me_90 : Cond.selects (pm_R 10) yX10_growEarnest yX10_growEarnest ∈ lw_tbl := List.mem_of_getElem? (i := 29) rfl
set_option maxRecDepth 100000 in
theorem pm_mc_91 : Cond.code yX10_growHoles cX10_growHoles 2 (some (.object "GuildCharter$Tree")) ∈ lw_tbl := List.mem_of_getElem? (i := 1093) rfl
set_option maxRecDepth 100000 in
theorem pm_mi_91 : Cond.instanceMethod yX10_growHoles ∈ lw_tbl := List.mem_of_getElem? (i := 1092) rfl
set_option maxRecDepth 100000 in
theorem pm_me_91 : Cond.selects (pm_R 10) yX10_growHoles yX10_growHoles ∈ lw_tbl := List.mem_of_getElem? (i := 44) rfl
set_option maxRecDepth 100000 in
theorem pm_mc_92 : Cond.code yX10_growWhole cX10_growWhole 1 (some (.object "GuildCharter$Tree")) ∈ lw_tbl := List.mem_of_getElem? (i := 1066) rfl
set_option maxRecDepth 100000 in
theorem pm_mi_92 : Cond.instanceMethod yX10_growWhole ∈ lw_tbl := List.mem_of_getElem? (i := 1065) rfl
set_option maxRecDepth 100000 in
theorem pm_me_92 : Cond.selects (pm_R 10) yX10_growWhole yX10_growWhole ∈ lw_tbl := List.mem_of_getElem? (i := 43) rfl
set_option maxRecDepth 100000 in
theorem pm_mc_93 : Cond.code yX10_held cX10_held 3 (some (.int)) ∈ lw_tbl := List.mem_of_getElem? (i := 990) rfl
set_option maxRecDepth 100000 in
theorem pm_mi_93 : Cond.instanceMethod yX10_held ∈ lw_tbl := List.mem_of_getElem? (i := 988) rfl
set_option maxRecDepth 100000 in
theorem pm_me_93 : Cond.selects (pm_R 10) yX10_held yX10_held ∈ lw_tbl := List.mem_of_getElem? (i := 989) rfl
set_option maxRecDepth 100000 in
theorem pm_mc_94 : Cond.code yX10_hole cX10_hole 4 (some (.boolean)) ∈ lw_tbl := List.mem_of_getElem? (i := 1085) rfl
set_option maxRecDepth 100000 in
theorem pm_mi_94 : Cond.instanceMethod yX10_hole ∈ lw_tbl := List.mem_of_getElem? (i := 1083) rfl
set_option maxRecDepth 100000 in
theorem pm_me_94 : Cond.selects (pm_R 10) yX10_hole yX10_hole ∈ lw_tbl := List.mem_of_getElem? (i := 1084) rfl
set_option maxRecDepth 100000 in
theorem pm_mc_95 : Cond.code yX10_image cX10_image 2 (some (.int)) ∈ lw_tbl := List.mem_of_getElem? (i := 1143) rfl
set_option maxRecDepth 100000 in
theorem pm_mi_95 : Cond.instanceMethod yX10_image ∈ lw_tbl := List.mem_of_getElem? (i := 1141) rfl
set_option maxRecDepth 100000 in
theorem pm_me_95 : Cond.selects (pm_R 10) yX10_image yX10_image ∈ lw_tbl := List.mem_of_getElem? (i := 1142) rfl
set_option maxRecDepth 100000 in
theorem pm_mc_96 : Cond.code yX10_isGuild cX10_isGuild 1 (some (.boolean)) ∈ lw_tbl := List.mem_of_getElem? (i := 769) rfl
set_option maxRecDepth 100000 in
theorem pm_ms_96 : Cond.static yX10_isGuild ∈ lw_tbl := List.mem_of_getElem? (i := 768) rfl
set_option maxRecDepth 100000 in
theorem pm_mc_97 : Cond.code yX10_isUnwritten cX10_isUnwritten 2 (some (.boolean)) ∈ lw_tbl := List.mem_of_getElem? (i := 847) rfl
set_option maxRecDepth 100000 in
theorem pm_mi_97 : Cond.instanceMethod yX10_isUnwritten ∈ lw_tbl := List.mem_of_getElem? (i := 846) rfl
set_option maxRecDepth 100000 in
theorem pm_me_97 : Cond.selects (pm_R 10) yX10_isUnwritten yX10_isUnwritten ∈ lw_tbl := List.mem_of_getElem? (i := 26) rfl
set_option maxRecDepth 100000 in
theorem pm_mc_98 : Cond.code yX10_later cX10_later 2 (some (.int)) ∈ lw_tbl := List.mem_of_getElem? (i := 1129) rfl
set_option maxRecDepth 100000 in
theorem pm_mi_98 : Cond.instanceMethod yX10_later ∈ lw_tbl := List.mem_of_getElem? (i := 1127) rfl
set_option maxRecDepth 100000 in
theorem pm_me_98 : Cond.selects (pm_R 10) yX10_later yX10_later ∈ lw_tbl := List.mem_of_getElem? (i := 1128) rfl
set_option maxRecDepth 100000 in
theorem pm_mc_99 : Cond.code yX10_lay cX10_lay 4 (none) ∈ lw_tbl := List.mem_of_getElem? (i := 985) rfl
set_option maxRecDepth 100000 in
theorem pm_mi_99 : Cond.instanceMethod yX10_lay ∈ lw_tbl := List.mem_of_getElem? (i := 984) rfl
set_option maxRecDepth 100000 in
theorem pm_me_99 : Cond.selects (pm_R 10) yX10_lay yX10_lay ∈ lw_tbl := List.mem_of_getElem? (i := 39) rfl
set_option maxRecDepth 100000 in
theorem pm_mc_100 : Cond.code yX10_lies cX10_lies 2 (some (.int)) ∈ lw_tbl := List.mem_of_getElem? (i := 1109) rfl
set_option maxRecDepth 100000 in
theorem pm_mi_100 : Cond.instanceMethod yX10_lies ∈ lw_tbl := List.mem_of_getElem? (i := 1107) rfl
set_option maxRecDepth 100000 in
theorem pm_me_100 : Cond.selects (pm_R 10) yX10_lies yX10_lies ∈ lw_tbl := List.mem_of_getElem? (i := 1108) rfl
set_option maxRecDepth 100000 in
theorem pm_mc_101 : Cond.code yX10_lots cX10_lots 5 (some (.int)) ∈ lw_tbl := List.mem_of_getElem? (i := 1076) rfl
set_option maxRecDepth 100000 in
theorem pm_mi_101 : Cond.instanceMethod yX10_lots ∈ lw_tbl := List.mem_of_getElem? (i := 1074) rfl
set_option maxRecDepth 100000 in
theorem pm_me_101 : Cond.selects (pm_R 10) yX10_lots yX10_lots ∈ lw_tbl := List.mem_of_getElem? (i := 1075) rfl
set_option maxRecDepth 100000 in
theorem pm_mc_102 : Cond.code yX10_means cX10_means 2 (some (.int)) ∈ lw_tbl := List.mem_of_getElem? (i := 900) rfl
set_option maxRecDepth 100000 in
theorem pm_mi_102 : Cond.instanceMethod yX10_means ∈ lw_tbl := List.mem_of_getElem? (i := 898) rfl
set_option maxRecDepth 100000 in
theorem pm_me_102 : Cond.selects (pm_R 10) yX10_means yX10_means ∈ lw_tbl := List.mem_of_getElem? (i := 899) rfl
set_option maxRecDepth 100000 in
theorem pm_mc_103 : Cond.code yX10_next cX10_next 1 (some (.int)) ∈ lw_tbl := List.mem_of_getElem? (i := 876) rfl
set_option maxRecDepth 100000 in
theorem pm_mi_103 : Cond.instanceMethod yX10_next ∈ lw_tbl := List.mem_of_getElem? (i := 874) rfl
set_option maxRecDepth 100000 in
theorem pm_me_103 : Cond.selects (pm_R 10) yX10_next yX10_next ∈ lw_tbl := List.mem_of_getElem? (i := 875) rfl
set_option maxRecDepth 100000 in
theorem pm_mc_104 : Cond.code yX10_nextInEarnest cX10_nextInEarnest 1 (some (.int)) ∈ lw_tbl := List.mem_of_getElem? (i := 798) rfl
set_option maxRecDepth 100000 in
theorem pm_mi_104 : Cond.instanceMethod yX10_nextInEarnest ∈ lw_tbl := List.mem_of_getElem? (i := 797) rfl
set_option maxRecDepth 100000 in
theorem pm_me_104 : Cond.selects (pm_R 10) yX10_nextInEarnest yX10_nextInEarnest ∈ lw_tbl := List.mem_of_getElem? (i := 20) rfl
set_option maxRecDepth 100000 in
theorem pm_mc_105 : Cond.code yX10_orders cX10_orders 5 (some (.int)) ∈ lw_tbl := List.mem_of_getElem? (i := 1134) rfl
set_option maxRecDepth 100000 in
theorem pm_mi_105 : Cond.instanceMethod yX10_orders ∈ lw_tbl := List.mem_of_getElem? (i := 1132) rfl
set_option maxRecDepth 100000 in
theorem pm_me_105 : Cond.selects (pm_R 10) yX10_orders yX10_orders ∈ lw_tbl := List.mem_of_getElem? (i := 1133) rfl
set_option maxRecDepth 100000 in
theorem pm_mc_106 : Cond.code yX10_ownAsInEarnest cX10_ownAsInEarnest 2 (none) ∈ lw_tbl := List.mem_of_getElem? (i := 952) rfl
set_option maxRecDepth 100000 in
theorem pm_mi_106 : Cond.instanceMethod yX10_ownAsInEarnest ∈ lw_tbl := List.mem_of_getElem? (i := 951) rfl
set_option maxRecDepth 100000 in
theorem pm_me_106 : Cond.selects (pm_R 10) yX10_ownAsInEarnest yX10_ownAsInEarnest ∈ lw_tbl := List.mem_of_getElem? (i := 34) rfl
set_option maxRecDepth 100000 in
theorem pm_mc_107 : Cond.code yX10_ownerInEarnest cX10_ownerInEarnest 2 (some (.int)) ∈ lw_tbl := List.mem_of_getElem? (i := 786) rfl
set_option maxRecDepth 100000 in
theorem pm_mi_107 : Cond.instanceMethod yX10_ownerInEarnest ∈ lw_tbl := List.mem_of_getElem? (i := 785) rfl
set_option maxRecDepth 100000 in
theorem pm_me_107 : Cond.selects (pm_R 10) yX10_ownerInEarnest yX10_ownerInEarnest ∈ lw_tbl := List.mem_of_getElem? (i := 19) rfl
set_option maxRecDepth 100000 in
theorem pm_mc_108 : Cond.code yX10_port cX10_port 2 (some (.int)) ∈ lw_tbl := List.mem_of_getElem? (i := 631) rfl
set_option maxRecDepth 100000 in
theorem pm_mi_108 : Cond.instanceMethod yX10_port ∈ lw_tbl := List.mem_of_getElem? (i := 629) rfl
set_option maxRecDepth 100000 in
theorem pm_me_108 : Cond.selects (pm_R 10) yX10_port yX10_port ∈ lw_tbl := List.mem_of_getElem? (i := 630) rfl
set_option maxRecDepth 100000 in
theorem pm_mc_109 : Cond.code yX10_readings cX10_readings 1 (some (.int)) ∈ lw_tbl := List.mem_of_getElem? (i := 880) rfl
set_option maxRecDepth 100000 in
theorem pm_mi_109 : Cond.instanceMethod yX10_readings ∈ lw_tbl := List.mem_of_getElem? (i := 878) rfl
set_option maxRecDepth 100000 in
theorem pm_me_109 : Cond.selects (pm_R 10) yX10_readings yX10_readings ∈ lw_tbl := List.mem_of_getElem? (i := 879) rfl
set_option maxRecDepth 100000 in
theorem pm_mc_110 : Cond.code yX10_redo cX10_redo 1 (some (.boolean)) ∈ lw_tbl := List.mem_of_getElem? (i := 863) rfl
set_option maxRecDepth 100000 in
theorem pm_mi_110 : Cond.instanceMethod yX10_redo ∈ lw_tbl := List.mem_of_getElem? (i := 861) rfl
set_option maxRecDepth 100000 in
theorem pm_me_110 : Cond.selects (pm_R 10) yX10_redo yX10_redo ∈ lw_tbl := List.mem_of_getElem? (i := 862) rfl
set_option maxRecDepth 100000 in
theorem pm_mc_111 : Cond.code yX10_seen cX10_seen 4 (some (.int)) ∈ lw_tbl := List.mem_of_getElem? (i := 1113) rfl
set_option maxRecDepth 100000 in
theorem pm_mi_111 : Cond.instanceMethod yX10_seen ∈ lw_tbl := List.mem_of_getElem? (i := 1111) rfl
set_option maxRecDepth 100000 in
theorem pm_me_111 : Cond.selects (pm_R 10) yX10_seen yX10_seen ∈ lw_tbl := List.mem_of_getElem? (i := 1112) rfl
set_option maxRecDepth 100000 in
theorem pm_mc_112 : Cond.code yX10_sell cX10_sell 4 (some (.int)) ∈ lw_tbl := List.mem_of_getElem? (i := 843) rfl
set_option maxRecDepth 100000 in
theorem pm_mi_112 : Cond.instanceMethod yX10_sell ∈ lw_tbl := List.mem_of_getElem? (i := 841) rfl
set_option maxRecDepth 100000 in
theorem pm_me_112 : Cond.selects (pm_R 10) yX10_sell yX10_sell ∈ lw_tbl := List.mem_of_getElem? (i := 842) rfl
set_option maxRecDepth 100000 in
theorem pm_mc_113 : Cond.code yX10_share cX10_share 6 (some (.int)) ∈ lw_tbl := List.mem_of_getElem? (i := 1008) rfl
set_option maxRecDepth 100000 in
theorem pm_mi_113 : Cond.instanceMethod yX10_share ∈ lw_tbl := List.mem_of_getElem? (i := 1006) rfl
set_option maxRecDepth 100000 in
theorem pm_me_113 : Cond.selects (pm_R 10) yX10_share yX10_share ∈ lw_tbl := List.mem_of_getElem? (i := 1007) rfl
set_option maxRecDepth 100000 in
theorem pm_mc_114 : Cond.code yX10_shortest cX10_shortest 2 (some (.int)) ∈ lw_tbl := List.mem_of_getElem? (i := 1058) rfl
set_option maxRecDepth 100000 in
theorem pm_mi_114 : Cond.instanceMethod yX10_shortest ∈ lw_tbl := List.mem_of_getElem? (i := 1056) rfl
set_option maxRecDepth 100000 in
theorem pm_me_114 : Cond.selects (pm_R 10) yX10_shortest yX10_shortest ∈ lw_tbl := List.mem_of_getElem? (i := 1057) rfl
set_option maxRecDepth 100000 in
theorem pm_mc_115 : Cond.code yX10_sixShares cX10_sixShares 7 (some (.int)) ∈ lw_tbl := List.mem_of_getElem? (i := 1012) rfl
set_option maxRecDepth 100000 in
theorem pm_mi_115 : Cond.instanceMethod yX10_sixShares ∈ lw_tbl := List.mem_of_getElem? (i := 1011) rfl
set_option maxRecDepth 100000 in
theorem pm_me_115 : Cond.selects (pm_R 10) yX10_sixShares yX10_sixShares ∈ lw_tbl := List.mem_of_getElem? (i := 40) rfl
set_option maxRecDepth 100000 in
theorem pm_mc_116 : Cond.code yX10_struck cX10_struck 7 (some (.int)) ∈ lw_tbl := List.mem_of_getElem? (i := 1101) rfl
set_option maxRecDepth 100000 in
theorem pm_mi_116 : Cond.instanceMethod yX10_struck ∈ lw_tbl := List.mem_of_getElem? (i := 1099) rfl
set_option maxRecDepth 100000 in
theorem pm_me_116 : Cond.selects (pm_R 10) yX10_struck yX10_struck ∈ lw_tbl := List.mem_of_getElem? (i := 1100) rfl
set_option maxRecDepth 100000 in
theorem pm_mc_117 : Cond.code yX10_swap cX10_swap 2 (some (.int)) ∈ lw_tbl := List.mem_of_getElem? (i := 1018) rfl
set_option maxRecDepth 100000 in
theorem pm_mi_117 : Cond.instanceMethod yX10_swap ∈ lw_tbl := List.mem_of_getElem? (i := 1016) rfl
set_option maxRecDepth 100000 in
theorem pm_me_117 : Cond.selects (pm_R 10) yX10_swap yX10_swap ∈ lw_tbl := List.mem_of_getElem? (i := 1017) rfl
set_option maxRecDepth 100000 in
theorem pm_mc_118 : Cond.code yX10_tapeNumber cX10_tapeNumber 3 (none) ∈ lw_tbl := List.mem_of_getElem? (i := 623) rfl
set_option maxRecDepth 100000 in
theorem pm_mi_118 : Cond.instanceMethod yX10_tapeNumber ∈ lw_tbl := List.mem_of_getElem? (i := 622) rfl
set_option maxRecDepth 100000 in
theorem pm_me_118 : Cond.selects (pm_R 10) yX10_tapeNumber yX10_tapeNumber ∈ lw_tbl := List.mem_of_getElem? (i := 0) rfl
set_option maxRecDepth 100000 in
theorem pm_mc_119 : Cond.code yX10_turn cX10_turn 2 (some (.int)) ∈ lw_tbl := List.mem_of_getElem? (i := 778) rfl
set_option maxRecDepth 100000 in
theorem pm_mi_119 : Cond.instanceMethod yX10_turn ∈ lw_tbl := List.mem_of_getElem? (i := 776) rfl
set_option maxRecDepth 100000 in
theorem pm_me_119 : Cond.selects (pm_R 10) yX10_turn yX10_turn ∈ lw_tbl := List.mem_of_getElem? (i := 777) rfl
set_option maxRecDepth 100000 in
theorem pm_mc_120 : Cond.code yX10_undo cX10_undo 1 (some (.boolean)) ∈ lw_tbl := List.mem_of_getElem? (i := 855) rfl
set_option maxRecDepth 100000 in
theorem pm_mi_120 : Cond.instanceMethod yX10_undo ∈ lw_tbl := List.mem_of_getElem? (i := 853) rfl
set_option maxRecDepth 100000 in
theorem pm_me_120 : Cond.selects (pm_R 10) yX10_undo yX10_undo ∈ lw_tbl := List.mem_of_getElem? (i := 854) rfl
set_option maxRecDepth 100000 in
theorem pm_mc_121 : Cond.code yX10_untell cX10_untell 2 (some (.boolean)) ∈ lw_tbl := List.mem_of_getElem? (i := 1121) rfl
set_option maxRecDepth 100000 in
theorem pm_mi_121 : Cond.instanceMethod yX10_untell ∈ lw_tbl := List.mem_of_getElem? (i := 1119) rfl
set_option maxRecDepth 100000 in
theorem pm_me_121 : Cond.selects (pm_R 10) yX10_untell yX10_untell ∈ lw_tbl := List.mem_of_getElem? (i := 1120) rfl
set_option maxRecDepth 100000 in
theorem pm_mc_122 : Cond.code yX10_used cX10_used 1 (some (.int)) ∈ lw_tbl := List.mem_of_getElem? (i := 1038) rfl
set_option maxRecDepth 100000 in
theorem pm_mi_122 : Cond.instanceMethod yX10_used ∈ lw_tbl := List.mem_of_getElem? (i := 1036) rfl
set_option maxRecDepth 100000 in
theorem pm_me_122 : Cond.selects (pm_R 10) yX10_used yX10_used ∈ lw_tbl := List.mem_of_getElem? (i := 1037) rfl
set_option maxRecDepth 100000 in
theorem pm_mc_123 : Cond.code yX10_wipe cX10_wipe 2 (some (.int)) ∈ lw_tbl := List.mem_of_getElem? (i := 868) rfl
set_option maxRecDepth 100000 in
theorem pm_mi_123 : Cond.instanceMethod yX10_wipe ∈ lw_tbl := List.mem_of_getElem? (i := 866) rfl
set_option maxRecDepth 100000 in
theorem pm_me_123 : Cond.selects (pm_R 10) yX10_wipe yX10_wipe ∈ lw_tbl := List.mem_of_getElem? (i := 867) rfl
set_option maxRecDepth 100000 in
theorem pm_mc_124 : Cond.code yX10_word cX10_word 2 (some (.int)) ∈ lw_tbl := List.mem_of_getElem? (i := 872) rfl
set_option maxRecDepth 100000 in
theorem pm_mi_124 : Cond.instanceMethod yX10_word ∈ lw_tbl := List.mem_of_getElem? (i := 870) rfl
set_option maxRecDepth 100000 in
theorem pm_me_124 : Cond.selects (pm_R 10) yX10_word yX10_word ∈ lw_tbl := List.mem_of_getElem? (i := 871) rfl
set_option maxRecDepth 100000 in
theorem pm_mc_125 : Cond.code yX10_worth cX10_worth 3 (some (.int)) ∈ lw_tbl := List.mem_of_getElem? (i := 765) rfl
set_option maxRecDepth 100000 in
theorem pm_mi_125 : Cond.instanceMethod yX10_worth ∈ lw_tbl := List.mem_of_getElem? (i := 763) rfl
set_option maxRecDepth 100000 in
theorem pm_me_125 : Cond.selects (pm_R 10) yX10_worth yX10_worth ∈ lw_tbl := List.mem_of_getElem? (i := 764) rfl
set_option maxRecDepth 100000 in
theorem pm_mc_126 : Cond.code yX10_write cX10_write 2 (some (.int)) ∈ lw_tbl := List.mem_of_getElem? (i := 794) rfl
set_option maxRecDepth 100000 in
theorem pm_mi_126 : Cond.instanceMethod yX10_write ∈ lw_tbl := List.mem_of_getElem? (i := 792) rfl
set_option maxRecDepth 100000 in
theorem pm_me_126 : Cond.selects (pm_R 10) yX10_write yX10_write ∈ lw_tbl := List.mem_of_getElem? (i := 793) rfl
set_option maxRecDepth 100000 in
theorem pm_mc_127 : Cond.code yX10_written cX10_written 4 (some (.int)) ∈ lw_tbl := List.mem_of_getElem? (i := 912) rfl
set_option maxRecDepth 100000 in
theorem pm_mi_127 : Cond.instanceMethod yX10_written ∈ lw_tbl := List.mem_of_getElem? (i := 910) rfl
set_option maxRecDepth 100000 in
theorem pm_me_127 : Cond.selects (pm_R 10) yX10_written yX10_written ∈ lw_tbl := List.mem_of_getElem? (i := 911) rfl
set_option maxRecDepth 100000 in
theorem pm_mc_128 : Cond.code yX11_about cX11_about 2 (some (.int)) ∈ lw_tbl := List.mem_of_getElem? (i := 1806) rfl
set_option maxRecDepth 100000 in
theorem pm_mi_128 : Cond.instanceMethod yX11_about ∈ lw_tbl := List.mem_of_getElem? (i := 1804) rfl
set_option maxRecDepth 100000 in
theorem pm_me_128 : Cond.selects (pm_R 11) yX11_about yX11_about ∈ lw_tbl := List.mem_of_getElem? (i := 1805) rfl
set_option maxRecDepth 100000 in
theorem pm_mc_129 : Cond.code yX11_areGrouped cX11_areGrouped 4 (some (.boolean)) ∈ lw_tbl := List.mem_of_getElem? (i := 1669) rfl
set_option maxRecDepth 100000 in
theorem pm_mi_129 : Cond.instanceMethod yX11_areGrouped ∈ lw_tbl := List.mem_of_getElem? (i := 1668) rfl
set_option maxRecDepth 100000 in
theorem pm_me_129 : Cond.selects (pm_R 11) yX11_areGrouped yX11_areGrouped ∈ lw_tbl := List.mem_of_getElem? (i := 93) rfl
set_option maxRecDepth 100000 in
theorem pm_mc_130 : Cond.code yX11_atMost cX11_atMost 2 (some (.long)) ∈ lw_tbl := List.mem_of_getElem? (i := 1586) rfl
set_option maxRecDepth 100000 in
theorem pm_ms_130 : Cond.static yX11_atMost ∈ lw_tbl := List.mem_of_getElem? (i := 1585) rfl
set_option maxRecDepth 100000 in
theorem pm_mc_131 : Cond.code yX11_back cX11_back 3 (some (.int)) ∈ lw_tbl := List.mem_of_getElem? (i := 1802) rfl
set_option maxRecDepth 100000 in
theorem pm_mi_131 : Cond.instanceMethod yX11_back ∈ lw_tbl := List.mem_of_getElem? (i := 1800) rfl
set_option maxRecDepth 100000 in
theorem pm_me_131 : Cond.selects (pm_R 11) yX11_back yX11_back ∈ lw_tbl := List.mem_of_getElem? (i := 1801) rfl
set_option maxRecDepth 100000 in
theorem pm_mc_132 : Cond.code yX11_begin cX11_begin 2 (none) ∈ lw_tbl := List.mem_of_getElem? (i := 1175) rfl
set_option maxRecDepth 100000 in
theorem pm_mi_132 : Cond.instanceMethod yX11_begin ∈ lw_tbl := List.mem_of_getElem? (i := 1174) rfl
set_option maxRecDepth 100000 in
theorem pm_me_132 : Cond.selects (pm_R 11) yX11_begin yX11_begin ∈ lw_tbl := List.mem_of_getElem? (i := 46) rfl
set_option maxRecDepth 100000 in
theorem pm_mc_133 : Cond.code yX11_behind cX11_behind 4 (some (.int)) ∈ lw_tbl := List.mem_of_getElem? (i := 1519) rfl
set_option maxRecDepth 100000 in
theorem pm_mi_133 : Cond.instanceMethod yX11_behind ∈ lw_tbl := List.mem_of_getElem? (i := 1517) rfl
set_option maxRecDepth 100000 in
theorem pm_me_133 : Cond.selects (pm_R 11) yX11_behind yX11_behind ∈ lw_tbl := List.mem_of_getElem? (i := 1518) rfl
set_option maxRecDepth 100000 in
theorem pm_mc_134 : Cond.code yX11_best cX11_best 4 (some (.int)) ∈ lw_tbl := List.mem_of_getElem? (i := 1765) rfl
set_option maxRecDepth 100000 in
theorem pm_mi_134 : Cond.instanceMethod yX11_best ∈ lw_tbl := List.mem_of_getElem? (i := 1763) rfl
set_option maxRecDepth 100000 in
theorem pm_me_134 : Cond.selects (pm_R 11) yX11_best yX11_best ∈ lw_tbl := List.mem_of_getElem? (i := 1764) rfl
set_option maxRecDepth 100000 in
theorem pm_mc_135 : Cond.code yX11_bribe cX11_bribe 3 (some (.int)) ∈ lw_tbl := List.mem_of_getElem? (i := 1715) rfl
set_option maxRecDepth 100000 in
theorem pm_mi_135 : Cond.instanceMethod yX11_bribe ∈ lw_tbl := List.mem_of_getElem? (i := 1713) rfl
set_option maxRecDepth 100000 in
theorem pm_me_135 : Cond.selects (pm_R 11) yX11_bribe yX11_bribe ∈ lw_tbl := List.mem_of_getElem? (i := 1714) rfl
set_option maxRecDepth 100000 in
theorem pm_mc_136 : Cond.code yX11_canCome cX11_canCome 2 (some (.boolean)) ∈ lw_tbl := List.mem_of_getElem? (i := 1547) rfl
set_option maxRecDepth 100000 in
theorem pm_mi_136 : Cond.instanceMethod yX11_canCome ∈ lw_tbl := List.mem_of_getElem? (i := 1546) rfl
set_option maxRecDepth 100000 in
theorem pm_me_136 : Cond.selects (pm_R 11) yX11_canCome yX11_canCome ∈ lw_tbl := List.mem_of_getElem? (i := 73) rfl
set_option maxRecDepth 100000 in
theorem pm_mc_137 : Cond.code yX11_canGoOn cX11_canGoOn 3 (some (.boolean)) ∈ lw_tbl := List.mem_of_getElem? (i := 1555) rfl
set_option maxRecDepth 100000 in
theorem pm_mi_137 : Cond.instanceMethod yX11_canGoOn ∈ lw_tbl := List.mem_of_getElem? (i := 1554) rfl
set_option maxRecDepth 100000 in
theorem pm_me_137 : Cond.selects (pm_R 11) yX11_canGoOn yX11_canGoOn ∈ lw_tbl := List.mem_of_getElem? (i := 75) rfl
set_option maxRecDepth 100000 in
theorem pm_mc_138 : Cond.code yX11_clearBank cX11_clearBank 2 (none) ∈ lw_tbl := List.mem_of_getElem? (i := 1171) rfl
set_option maxRecDepth 100000 in
theorem pm_mi_138 : Cond.instanceMethod yX11_clearBank ∈ lw_tbl := List.mem_of_getElem? (i := 1170) rfl
set_option maxRecDepth 100000 in
theorem pm_me_138 : Cond.selects (pm_R 11) yX11_clearBank yX11_clearBank ∈ lw_tbl := List.mem_of_getElem? (i := 45) rfl
set_option maxRecDepth 100000 in
theorem pm_mc_139 : Cond.code yX11_common cX11_common 5 (some (.int)) ∈ lw_tbl := List.mem_of_getElem? (i := 1707) rfl
set_option maxRecDepth 100000 in
theorem pm_ms_139 : Cond.static yX11_common ∈ lw_tbl := List.mem_of_getElem? (i := 1706) rfl
set_option maxRecDepth 100000 in
theorem pm_mc_140 : Cond.code yX11_doesRead cX11_doesRead 8 (some (.boolean)) ∈ lw_tbl := List.mem_of_getElem? (i := 1567) rfl
set_option maxRecDepth 100000 in
theorem pm_mi_140 : Cond.instanceMethod yX11_doesRead ∈ lw_tbl := List.mem_of_getElem? (i := 1566) rfl
set_option maxRecDepth 100000 in
theorem pm_me_140 : Cond.selects (pm_R 11) yX11_doesRead yX11_doesRead ∈ lw_tbl := List.mem_of_getElem? (i := 78) rfl
set_option maxRecDepth 100000 in
theorem pm_mc_141 : Cond.code yX11_doubtful cX11_doubtful 4 (some (.int)) ∈ lw_tbl := List.mem_of_getElem? (i := 1748) rfl
set_option maxRecDepth 100000 in
theorem pm_mi_141 : Cond.instanceMethod yX11_doubtful ∈ lw_tbl := List.mem_of_getElem? (i := 1746) rfl
set_option maxRecDepth 100000 in
theorem pm_me_141 : Cond.selects (pm_R 11) yX11_doubtful yX11_doubtful ∈ lw_tbl := List.mem_of_getElem? (i := 1747) rfl
set_option maxRecDepth 100000 in
theorem pm_mc_142 : Cond.code yX11_end cX11_end 2 (some (.int)) ∈ lw_tbl := List.mem_of_getElem? (i := 1814) rfl
set_option maxRecDepth 100000 in
theorem pm_mi_142 : Cond.instanceMethod yX11_end ∈ lw_tbl := List.mem_of_getElem? (i := 1812) rfl
set_option maxRecDepth 100000 in
theorem pm_me_142 : Cond.selects (pm_R 11) yX11_end yX11_end ∈ lw_tbl := List.mem_of_getElem? (i := 1813) rfl
set_option maxRecDepth 100000 in
theorem pm_mc_143 : Cond.code yX11_endsBy cX11_endsBy 3 (some (.int)) ∈ lw_tbl := List.mem_of_getElem? (i := 1571) rfl
set_option maxRecDepth 100000 in
theorem pm_mi_143 : Cond.instanceMethod yX11_endsBy ∈ lw_tbl := List.mem_of_getElem? (i := 1570) rfl
set_option maxRecDepth 100000 in
theorem pm_me_143 : Cond.selects (pm_R 11) yX11_endsBy yX11_endsBy ∈ lw_tbl := List.mem_of_getElem? (i := 79) rfl
set_option maxRecDepth 100000 in
theorem pm_mc_144 : Cond.code yX11_exchange cX11_exchange 3 (none) ∈ lw_tbl := List.mem_of_getElem? (i := 1615) rfl
set_option maxRecDepth 100000 in
theorem pm_mi_144 : Cond.instanceMethod yX11_exchange ∈ lw_tbl := List.mem_of_getElem? (i := 1614) rfl
set_option maxRecDepth 100000 in
theorem pm_me_144 : Cond.selects (pm_R 11) yX11_exchange yX11_exchange ∈ lw_tbl := List.mem_of_getElem? (i := 84) rfl
set_option maxRecDepth 100000 in
theorem pm_mc_145 : Cond.code yX11_fails cX11_fails 3 (none) ∈ lw_tbl := List.mem_of_getElem? (i := 1444) rfl
set_option maxRecDepth 100000 in
theorem pm_mi_145 : Cond.instanceMethod yX11_fails ∈ lw_tbl := List.mem_of_getElem? (i := 1443) rfl
set_option maxRecDepth 100000 in
theorem pm_me_145 : Cond.selects (pm_R 11) yX11_fails yX11_fails ∈ lw_tbl := List.mem_of_getElem? (i := 55) rfl
set_option maxRecDepth 100000 in
theorem pm_mc_146 : Cond.code yX11_fault cX11_fault 2 (some (.int)) ∈ lw_tbl := List.mem_of_getElem? (i := 1500) rfl
set_option maxRecDepth 100000 in
theorem pm_mi_146 : Cond.instanceMethod yX11_fault ∈ lw_tbl := List.mem_of_getElem? (i := 1498) rfl
set_option maxRecDepth 100000 in
theorem pm_me_146 : Cond.selects (pm_R 11) yX11_fault yX11_fault ∈ lw_tbl := List.mem_of_getElem? (i := 1499) rfl
set_option maxRecDepth 100000 in
theorem pm_mc_147 : Cond.code yX11_feed cX11_feed 8 (some (.int)) ∈ lw_tbl := List.mem_of_getElem? (i := 1810) rfl
set_option maxRecDepth 100000 in
theorem pm_mi_147 : Cond.instanceMethod yX11_feed ∈ lw_tbl := List.mem_of_getElem? (i := 1808) rfl
set_option maxRecDepth 100000 in
theorem pm_me_147 : Cond.selects (pm_R 11) yX11_feed yX11_feed ∈ lw_tbl := List.mem_of_getElem? (i := 1809) rfl
set_option maxRecDepth 100000 in
theorem pm_mc_148 : Cond.code yX11_fit cX11_fit 1 (some (.int)) ∈ lw_tbl := List.mem_of_getElem? (i := 1761) rfl
set_option maxRecDepth 100000 in
theorem pm_mi_148 : Cond.instanceMethod yX11_fit ∈ lw_tbl := List.mem_of_getElem? (i := 1759) rfl
set_option maxRecDepth 100000 in
theorem pm_me_148 : Cond.selects (pm_R 11) yX11_fit yX11_fit ∈ lw_tbl := List.mem_of_getElem? (i := 1760) rfl
set_option maxRecDepth 100000 in
theorem pm_mc_149 : Cond.code yX11_fresh cX11_fresh 3 (some (.long)) ∈ lw_tbl := List.mem_of_getElem? (i := 1452) rfl
set_option maxRecDepth 100000 in
theorem pm_mi_149 : Cond.instanceMethod yX11_fresh ∈ lw_tbl := List.mem_of_getElem? (i := 1451) rfl
set_option maxRecDepth 100000 in
theorem pm_me_149 : Cond.selects (pm_R 11) yX11_fresh yX11_fresh ∈ lw_tbl := List.mem_of_getElem? (i := 57) rfl
set_option maxRecDepth 100000 in
theorem pm_mc_150 : Cond.code yX11_gain cX11_gain 3 (some (.int)) ∈ lw_tbl := List.mem_of_getElem? (i := 1677) rfl
set_option maxRecDepth 100000 in
theorem pm_mi_150 : Cond.instanceMethod yX11_gain ∈ lw_tbl := List.mem_of_getElem? (i := 1676) rfl
set_option maxRecDepth 100000 in
theorem pm_me_150 : Cond.selects (pm_R 11) yX11_gain yX11_gain ∈ lw_tbl := List.mem_of_getElem? (i := 95) rfl
set_option maxRecDepth 100000 in
theorem pm_mc_151 : Cond.code yX11_gainOf cX11_gainOf 5 (some (.int)) ∈ lw_tbl := List.mem_of_getElem? (i := 1685) rfl
set_option maxRecDepth 100000 in
theorem pm_mi_151 : Cond.instanceMethod yX11_gainOf ∈ lw_tbl := List.mem_of_getElem? (i := 1684) rfl
set_option maxRecDepth 100000 in
theorem pm_me_151 : Cond.selects (pm_R 11) yX11_gainOf yX11_gainOf ∈ lw_tbl := List.mem_of_getElem? (i := 97) rfl
set_option maxRecDepth 100000 in
theorem pm_mc_152 : Cond.code yX11_goOn cX11_goOn 3 (none) ∈ lw_tbl := List.mem_of_getElem? (i := 1401) rfl
set_option maxRecDepth 100000 in
theorem pm_mi_152 : Cond.instanceMethod yX11_goOn ∈ lw_tbl := List.mem_of_getElem? (i := 1400) rfl
set_option maxRecDepth 100000 in
theorem pm_me_152 : Cond.selects (pm_R 11) yX11_goOn yX11_goOn ∈ lw_tbl := List.mem_of_getElem? (i := 48) rfl
set_option maxRecDepth 100000 in
theorem pm_mc_153 : Cond.code yX11_held cX11_held 2 (some (.int)) ∈ lw_tbl := List.mem_of_getElem? (i := 1693) rfl
set_option maxRecDepth 100000 in
theorem pm_mi_153 : Cond.instanceMethod yX11_held ∈ lw_tbl := List.mem_of_getElem? (i := 1691) rfl
set_option maxRecDepth 100000 in
theorem pm_me_153 : Cond.selects (pm_R 11) yX11_held yX11_held ∈ lw_tbl := List.mem_of_getElem? (i := 1692) rfl
set_option maxRecDepth 100000 in
theorem pm_mc_154 : Cond.code yX11_heldBy cX11_heldBy 3 (some (.int)) ∈ lw_tbl := List.mem_of_getElem? (i := 1697) rfl
set_option maxRecDepth 100000 in
theorem pm_mi_154 : Cond.instanceMethod yX11_heldBy ∈ lw_tbl := List.mem_of_getElem? (i := 1696) rfl
set_option maxRecDepth 100000 in
theorem pm_me_154 : Cond.selects (pm_R 11) yX11_heldBy yX11_heldBy ∈ lw_tbl := List.mem_of_getElem? (i := 99) rfl
set_option maxRecDepth 100000 in
theorem pm_mc_155 : Cond.code yX11_hole cX11_hole 3 (some (.boolean)) ∈ lw_tbl := List.mem_of_getElem? (i := 1757) rfl
set_option maxRecDepth 100000 in
theorem pm_mi_155 : Cond.instanceMethod yX11_hole ∈ lw_tbl := List.mem_of_getElem? (i := 1755) rfl
set_option maxRecDepth 100000 in
theorem pm_me_155 : Cond.selects (pm_R 11) yX11_hole yX11_hole ∈ lw_tbl := List.mem_of_getElem? (i := 1756) rfl
set_option maxRecDepth 100000 in
theorem pm_mc_156 : Cond.code yX11_image cX11_image 3 (some (.int)) ∈ lw_tbl := List.mem_of_getElem? (i := 1798) rfl
set_option maxRecDepth 100000 in
theorem pm_mi_156 : Cond.instanceMethod yX11_image ∈ lw_tbl := List.mem_of_getElem? (i := 1796) rfl
set_option maxRecDepth 100000 in
theorem pm_me_156 : Cond.selects (pm_R 11) yX11_image yX11_image ∈ lw_tbl := List.mem_of_getElem? (i := 1797) rfl
set_option maxRecDepth 100000 in
theorem pm_mc_157 : Cond.code yX11_isBetter cX11_isBetter 6 (some (.boolean)) ∈ lw_tbl := List.mem_of_getElem? (i := 1673) rfl
set_option maxRecDepth 100000 in
theorem pm_mi_157 : Cond.instanceMethod yX11_isBetter ∈ lw_tbl := List.mem_of_getElem? (i := 1672) rfl
set_option maxRecDepth 100000 in
theorem pm_me_157 : Cond.selects (pm_R 11) yX11_isBetter yX11_isBetter ∈ lw_tbl := List.mem_of_getElem? (i := 94) rfl
set_option maxRecDepth 100000 in
theorem pm_mc_158 : Cond.code yX11_isDigit cX11_isDigit 1 (some (.boolean)) ∈ lw_tbl := List.mem_of_getElem? (i := 1420) rfl
set_option maxRecDepth 100000 in
theorem pm_ms_158 : Cond.static yX11_isDigit ∈ lw_tbl := List.mem_of_getElem? (i := 1419) rfl
set_option maxRecDepth 100000 in
theorem pm_mc_159 : Cond.code yX11_isFull cX11_isFull 1 (some (.boolean)) ∈ lw_tbl := List.mem_of_getElem? (i := 1432) rfl
set_option maxRecDepth 100000 in
theorem pm_mi_159 : Cond.instanceMethod yX11_isFull ∈ lw_tbl := List.mem_of_getElem? (i := 1431) rfl
set_option maxRecDepth 100000 in
theorem pm_me_159 : Cond.selects (pm_R 11) yX11_isFull yX11_isFull ∈ lw_tbl := List.mem_of_getElem? (i := 52) rfl
set_option maxRecDepth 100000 in
theorem pm_mc_160 : Cond.code yX11_isGood cX11_isGood 1 (some (.boolean)) ∈ lw_tbl := List.mem_of_getElem? (i := 1424) rfl
set_option maxRecDepth 100000 in
theorem pm_mi_160 : Cond.instanceMethod yX11_isGood ∈ lw_tbl := List.mem_of_getElem? (i := 1423) rfl
set_option maxRecDepth 100000 in
theorem pm_me_160 : Cond.selects (pm_R 11) yX11_isGood yX11_isGood ∈ lw_tbl := List.mem_of_getElem? (i := 50) rfl
set_option maxRecDepth 100000 in
theorem pm_mc_161 : Cond.code yX11_isGuild cX11_isGuild 1 (some (.boolean)) ∈ lw_tbl := List.mem_of_getElem? (i := 1514) rfl
set_option maxRecDepth 100000 in
theorem pm_ms_161 : Cond.static yX11_isGuild ∈ lw_tbl := List.mem_of_getElem? (i := 1513) rfl
set_option maxRecDepth 100000 in
theorem pm_mc_162 : Cond.code yX11_isIn cX11_isIn 3 (some (.boolean)) ∈ lw_tbl := List.mem_of_getElem? (i := 1511) rfl
set_option maxRecDepth 100000 in
theorem pm_ms_162 : Cond.static yX11_isIn ∈ lw_tbl := List.mem_of_getElem? (i := 1510) rfl
set_option maxRecDepth 100000 in
theorem pm_mc_163 : Cond.code yX11_isKept cX11_isKept 2 (some (.boolean)) ∈ lw_tbl := List.mem_of_getElem? (i := 1411) rfl
set_option maxRecDepth 100000 in
theorem pm_ms_163 : Cond.static yX11_isKept ∈ lw_tbl := List.mem_of_getElem? (i := 1410) rfl
set_option maxRecDepth 100000 in
theorem pm_mc_164 : Cond.code yX11_isLetter cX11_isLetter 1 (some (.boolean)) ∈ lw_tbl := List.mem_of_getElem? (i := 1408) rfl
set_option maxRecDepth 100000 in
theorem pm_ms_164 : Cond.static yX11_isLetter ∈ lw_tbl := List.mem_of_getElem? (i := 1407) rfl
set_option maxRecDepth 100000 in
theorem pm_mc_165 : Cond.code yX11_isOnPath cX11_isOnPath 3 (some (.boolean)) ∈ lw_tbl := List.mem_of_getElem? (i := 1649) rfl
set_option maxRecDepth 100000 in
theorem pm_mi_165 : Cond.instanceMethod yX11_isOnPath ∈ lw_tbl := List.mem_of_getElem? (i := 1648) rfl
set_option maxRecDepth 100000 in
theorem pm_me_165 : Cond.selects (pm_R 11) yX11_isOnPath yX11_isOnPath ∈ lw_tbl := List.mem_of_getElem? (i := 88) rfl
set_option maxRecDepth 100000 in
theorem pm_mc_166 : Cond.code yX11_isPlace cX11_isPlace 2 (some (.boolean)) ∈ lw_tbl := List.mem_of_getElem? (i := 1531) rfl
set_option maxRecDepth 100000 in
theorem pm_mi_166 : Cond.instanceMethod yX11_isPlace ∈ lw_tbl := List.mem_of_getElem? (i := 1530) rfl
set_option maxRecDepth 100000 in
theorem pm_me_166 : Cond.selects (pm_R 11) yX11_isPlace yX11_isPlace ∈ lw_tbl := List.mem_of_getElem? (i := 71) rfl
set_option maxRecDepth 100000 in
theorem pm_mc_167 : Cond.code yX11_isRead cX11_isRead 2 (some (.boolean)) ∈ lw_tbl := List.mem_of_getElem? (i := 1559) rfl
set_option maxRecDepth 100000 in
theorem pm_mi_167 : Cond.instanceMethod yX11_isRead ∈ lw_tbl := List.mem_of_getElem? (i := 1558) rfl
set_option maxRecDepth 100000 in
theorem pm_me_167 : Cond.selects (pm_R 11) yX11_isRead yX11_isRead ∈ lw_tbl := List.mem_of_getElem? (i := 76) rfl
set_option maxRecDepth 100000 in
theorem pm_mc_168 : Cond.code yX11_isSignHere cX11_isSignHere 2 (some (.boolean)) ∈ lw_tbl := List.mem_of_getElem? (i := 1480) rfl
set_option maxRecDepth 100000 in
theorem pm_mi_168 : Cond.instanceMethod yX11_isSignHere ∈ lw_tbl := List.mem_of_getElem? (i := 1479) rfl
set_option maxRecDepth 100000 in
theorem pm_me_168 : Cond.selects (pm_R 11) yX11_isSignHere yX11_isSignHere ∈ lw_tbl := List.mem_of_getElem? (i := 64) rfl
set_option maxRecDepth 100000 in
theorem pm_mc_169 : Cond.code yX11_isSo cX11_isSo 4 (some (.boolean)) ∈ lw_tbl := List.mem_of_getElem? (i := 1794) rfl
set_option maxRecDepth 100000 in
theorem pm_mi_169 : Cond.instanceMethod yX11_isSo ∈ lw_tbl := List.mem_of_getElem? (i := 1793) rfl
set_option maxRecDepth 100000 in
theorem pm_me_169 : Cond.selects (pm_R 11) yX11_isSo yX11_isSo ∈ lw_tbl := List.mem_of_getElem? (i := 106) rfl
set_option maxRecDepth 100000 in
theorem pm_mc_170 : Cond.code yX11_isWord cX11_isWord 3 (some (.boolean)) ∈ lw_tbl := List.mem_of_getElem? (i := 1436) rfl
set_option maxRecDepth 100000 in
theorem pm_mi_170 : Cond.instanceMethod yX11_isWord ∈ lw_tbl := List.mem_of_getElem? (i := 1435) rfl
set_option maxRecDepth 100000 in
theorem pm_me_170 : Cond.selects (pm_R 11) yX11_isWord yX11_isWord ∈ lw_tbl := List.mem_of_getElem? (i := 53) rfl
set_option maxRecDepth 100000 in
theorem pm_mc_171 : Cond.code yX11_isWordOf cX11_isWordOf 2 (some (.boolean)) ∈ lw_tbl := List.mem_of_getElem? (i := 1508) rfl
set_option maxRecDepth 100000 in
theorem pm_mi_171 : Cond.instanceMethod yX11_isWordOf ∈ lw_tbl := List.mem_of_getElem? (i := 1507) rfl
set_option maxRecDepth 100000 in
theorem pm_me_171 : Cond.selects (pm_R 11) yX11_isWordOf yX11_isWordOf ∈ lw_tbl := List.mem_of_getElem? (i := 69) rfl
set_option maxRecDepth 100000 in
theorem pm_mc_172 : Cond.code yX11_keepAct cX11_keepAct 4 (none) ∈ lw_tbl := List.mem_of_getElem? (i := 1603) rfl
set_option maxRecDepth 100000 in
theorem pm_mi_172 : Cond.instanceMethod yX11_keepAct ∈ lw_tbl := List.mem_of_getElem? (i := 1602) rfl
set_option maxRecDepth 100000 in
theorem pm_me_172 : Cond.selects (pm_R 11) yX11_keepAct yX11_keepAct ∈ lw_tbl := List.mem_of_getElem? (i := 83) rfl
set_option maxRecDepth 100000 in
theorem pm_mc_173 : Cond.code yX11_keyOf cX11_keyOf 6 (some (.long)) ∈ lw_tbl := List.mem_of_getElem? (i := 1643) rfl
set_option maxRecDepth 100000 in
theorem pm_mi_173 : Cond.instanceMethod yX11_keyOf ∈ lw_tbl := List.mem_of_getElem? (i := 1642) rfl
set_option maxRecDepth 100000 in
theorem pm_me_173 : Cond.selects (pm_R 11) yX11_keyOf yX11_keyOf ∈ lw_tbl := List.mem_of_getElem? (i := 87) rfl
set_option maxRecDepth 100000 in
theorem pm_mc_174 : Cond.code yX11_known cX11_known 2 (some (.int)) ∈ lw_tbl := List.mem_of_getElem? (i := 1472) rfl
set_option maxRecDepth 100000 in
theorem pm_mi_174 : Cond.instanceMethod yX11_known ∈ lw_tbl := List.mem_of_getElem? (i := 1471) rfl
set_option maxRecDepth 100000 in
theorem pm_me_174 : Cond.selects (pm_R 11) yX11_known yX11_known ∈ lw_tbl := List.mem_of_getElem? (i := 62) rfl
set_option maxRecDepth 100000 in
theorem pm_mc_175 : Cond.code yX11_later cX11_later 2 (some (.int)) ∈ lw_tbl := List.mem_of_getElem? (i := 1785) rfl
set_option maxRecDepth 100000 in
theorem pm_mi_175 : Cond.instanceMethod yX11_later ∈ lw_tbl := List.mem_of_getElem? (i := 1783) rfl
set_option maxRecDepth 100000 in
theorem pm_me_175 : Cond.selects (pm_R 11) yX11_later yX11_later ∈ lw_tbl := List.mem_of_getElem? (i := 1784) rfl
set_option maxRecDepth 100000 in
theorem pm_mc_176 : Cond.code yX11_lay cX11_lay 3 (none) ∈ lw_tbl := List.mem_of_getElem? (i := 1689) rfl
set_option maxRecDepth 100000 in
theorem pm_mi_176 : Cond.instanceMethod yX11_lay ∈ lw_tbl := List.mem_of_getElem? (i := 1688) rfl
set_option maxRecDepth 100000 in
theorem pm_me_176 : Cond.selects (pm_R 11) yX11_lay yX11_lay ∈ lw_tbl := List.mem_of_getElem? (i := 98) rfl
set_option maxRecDepth 100000 in
theorem pm_mc_177 : Cond.code yX11_layEnds cX11_layEnds 5 (none) ∈ lw_tbl := List.mem_of_getElem? (i := 1563) rfl
set_option maxRecDepth 100000 in
theorem pm_mi_177 : Cond.instanceMethod yX11_layEnds ∈ lw_tbl := List.mem_of_getElem? (i := 1562) rfl
set_option maxRecDepth 100000 in
theorem pm_me_177 : Cond.selects (pm_R 11) yX11_layEnds yX11_layEnds ∈ lw_tbl := List.mem_of_getElem? (i := 77) rfl
set_option maxRecDepth 100000 in
theorem pm_mc_178 : Cond.code yX11_layFromNone cX11_layFromNone 1 (some (.boolean)) ∈ lw_tbl := List.mem_of_getElem? (i := 1723) rfl
set_option maxRecDepth 100000 in
theorem pm_mi_178 : Cond.instanceMethod yX11_layFromNone ∈ lw_tbl := List.mem_of_getElem? (i := 1722) rfl
set_option maxRecDepth 100000 in
theorem pm_me_178 : Cond.selects (pm_R 11) yX11_layFromNone yX11_layFromNone ∈ lw_tbl := List.mem_of_getElem? (i := 100) rfl
set_option maxRecDepth 100000 in
theorem pm_mc_179 : Cond.code yX11_layFromRow cX11_layFromRow 2 (some (.boolean)) ∈ lw_tbl := List.mem_of_getElem? (i := 1635) rfl
set_option maxRecDepth 100000 in
theorem pm_mi_179 : Cond.instanceMethod yX11_layFromRow ∈ lw_tbl := List.mem_of_getElem? (i := 1634) rfl
set_option maxRecDepth 100000 in
theorem pm_me_179 : Cond.selects (pm_R 11) yX11_layFromRow yX11_layFromRow ∈ lw_tbl := List.mem_of_getElem? (i := 85) rfl
set_option maxRecDepth 100000 in
theorem pm_mc_180 : Cond.code yX11_layList cX11_layList 6 (some (.boolean)) ∈ lw_tbl := List.mem_of_getElem? (i := 1639) rfl
set_option maxRecDepth 100000 in
theorem pm_mi_180 : Cond.instanceMethod yX11_layList ∈ lw_tbl := List.mem_of_getElem? (i := 1638) rfl
set_option maxRecDepth 100000 in
theorem pm_me_180 : Cond.selects (pm_R 11) yX11_layList yX11_layList ∈ lw_tbl := List.mem_of_getElem? (i := 86) rfl
set_option maxRecDepth 100000 in
theorem pm_mc_181 : Cond.code yX11_layShortest cX11_layShortest 5 (none) ∈ lw_tbl := List.mem_of_getElem? (i := 1735) rfl
set_option maxRecDepth 100000 in
theorem pm_mi_181 : Cond.instanceMethod yX11_layShortest ∈ lw_tbl := List.mem_of_getElem? (i := 1734) rfl
set_option maxRecDepth 100000 in
theorem pm_me_181 : Cond.selects (pm_R 11) yX11_layShortest yX11_layShortest ∈ lw_tbl := List.mem_of_getElem? (i := 102) rfl
set_option maxRecDepth 100000 in
theorem pm_mc_182 : Cond.code yX11_lies cX11_lies 2 (some (.int)) ∈ lw_tbl := List.mem_of_getElem? (i := 1627) rfl
set_option maxRecDepth 100000 in
theorem pm_mi_182 : Cond.instanceMethod yX11_lies ∈ lw_tbl := List.mem_of_getElem? (i := 1625) rfl
set_option maxRecDepth 100000 in
theorem pm_me_182 : Cond.selects (pm_R 11) yX11_lies yX11_lies ∈ lw_tbl := List.mem_of_getElem? (i := 1626) rfl
set_option maxRecDepth 100000 in
theorem pm_mc_183 : Cond.code yX11_longOf cX11_longOf 1 (some (.int)) ∈ lw_tbl := List.mem_of_getElem? (i := 1535) rfl
set_option maxRecDepth 100000 in
theorem pm_mi_183 : Cond.instanceMethod yX11_longOf ∈ lw_tbl := List.mem_of_getElem? (i := 1534) rfl
set_option maxRecDepth 100000 in
theorem pm_me_183 : Cond.selects (pm_R 11) yX11_longOf yX11_longOf ∈ lw_tbl := List.mem_of_getElem? (i := 72) rfl
set_option maxRecDepth 100000 in
theorem pm_mc_184 : Cond.code yX11_lots cX11_lots 4 (some (.int)) ∈ lw_tbl := List.mem_of_getElem? (i := 1719) rfl
set_option maxRecDepth 100000 in
theorem pm_mi_184 : Cond.instanceMethod yX11_lots ∈ lw_tbl := List.mem_of_getElem? (i := 1717) rfl
set_option maxRecDepth 100000 in
theorem pm_me_184 : Cond.selects (pm_R 11) yX11_lots yX11_lots ∈ lw_tbl := List.mem_of_getElem? (i := 1718) rfl
set_option maxRecDepth 100000 in
theorem pm_mc_185 : Cond.code yX11_means cX11_means 2 (some (.int)) ∈ lw_tbl := List.mem_of_getElem? (i := 1591) rfl
set_option maxRecDepth 100000 in
theorem pm_mi_185 : Cond.instanceMethod yX11_means ∈ lw_tbl := List.mem_of_getElem? (i := 1589) rfl
set_option maxRecDepth 100000 in
theorem pm_me_185 : Cond.selects (pm_R 11) yX11_means yX11_means ∈ lw_tbl := List.mem_of_getElem? (i := 1590) rfl
set_option maxRecDepth 100000 in
theorem pm_mc_186 : Cond.code yX11_meansOf cX11_meansOf 5 (some (.int)) ∈ lw_tbl := List.mem_of_getElem? (i := 1595) rfl
set_option maxRecDepth 100000 in
theorem pm_mi_186 : Cond.instanceMethod yX11_meansOf ∈ lw_tbl := List.mem_of_getElem? (i := 1594) rfl
set_option maxRecDepth 100000 in
theorem pm_me_186 : Cond.selects (pm_R 11) yX11_meansOf yX11_meansOf ∈ lw_tbl := List.mem_of_getElem? (i := 82) rfl
set_option maxRecDepth 100000 in
theorem pm_mc_187 : Cond.code yX11_misplaced cX11_misplaced 1 (none) ∈ lw_tbl := List.mem_of_getElem? (i := 1440) rfl
set_option maxRecDepth 100000 in
theorem pm_mi_187 : Cond.instanceMethod yX11_misplaced ∈ lw_tbl := List.mem_of_getElem? (i := 1439) rfl
set_option maxRecDepth 100000 in
theorem pm_me_187 : Cond.selects (pm_R 11) yX11_misplaced yX11_misplaced ∈ lw_tbl := List.mem_of_getElem? (i := 54) rfl
set_option maxRecDepth 100000 in
theorem pm_mc_188 : Cond.code yX11_must cX11_must 2 (none) ∈ lw_tbl := List.mem_of_getElem? (i := 1484) rfl
set_option maxRecDepth 100000 in
theorem pm_mi_188 : Cond.instanceMethod yX11_must ∈ lw_tbl := List.mem_of_getElem? (i := 1483) rfl
set_option maxRecDepth 100000 in
theorem pm_me_188 : Cond.selects (pm_R 11) yX11_must yX11_must ∈ lw_tbl := List.mem_of_getElem? (i := 65) rfl
set_option maxRecDepth 100000 in
theorem pm_mc_189 : Cond.code yX11_next cX11_next 3 (some (.int)) ∈ lw_tbl := List.mem_of_getElem? (i := 1543) rfl
set_option maxRecDepth 100000 in
theorem pm_mi_189 : Cond.instanceMethod yX11_next ∈ lw_tbl := List.mem_of_getElem? (i := 1541) rfl
set_option maxRecDepth 100000 in
theorem pm_me_189 : Cond.selects (pm_R 11) yX11_next yX11_next ∈ lw_tbl := List.mem_of_getElem? (i := 1542) rfl
set_option maxRecDepth 100000 in
theorem pm_mc_190 : Cond.code yX11_numeral cX11_numeral 4 (some (.int)) ∈ lw_tbl := List.mem_of_getElem? (i := 1464) rfl
set_option maxRecDepth 100000 in
theorem pm_mi_190 : Cond.instanceMethod yX11_numeral ∈ lw_tbl := List.mem_of_getElem? (i := 1463) rfl
set_option maxRecDepth 100000 in
theorem pm_me_190 : Cond.selects (pm_R 11) yX11_numeral yX11_numeral ∈ lw_tbl := List.mem_of_getElem? (i := 60) rfl
set_option maxRecDepth 100000 in
theorem pm_mc_191 : Cond.code yX11_orderTurn cX11_orderTurn 6 (some (.int)) ∈ lw_tbl := List.mem_of_getElem? (i := 1704) rfl
set_option maxRecDepth 100000 in
theorem pm_ms_191 : Cond.static yX11_orderTurn ∈ lw_tbl := List.mem_of_getElem? (i := 1703) rfl
set_option maxRecDepth 100000 in
theorem pm_mc_192 : Cond.code yX11_orders cX11_orders 4 (some (.int)) ∈ lw_tbl := List.mem_of_getElem? (i := 1790) rfl
set_option maxRecDepth 100000 in
theorem pm_mi_192 : Cond.instanceMethod yX11_orders ∈ lw_tbl := List.mem_of_getElem? (i := 1788) rfl
set_option maxRecDepth 100000 in
theorem pm_me_192 : Cond.selects (pm_R 11) yX11_orders yX11_orders ∈ lw_tbl := List.mem_of_getElem? (i := 1789) rfl
set_option maxRecDepth 100000 in
theorem pm_mc_193 : Cond.code yX11_packed cX11_packed 3 (some (.int)) ∈ lw_tbl := List.mem_of_getElem? (i := 1657) rfl
set_option maxRecDepth 100000 in
theorem pm_mi_193 : Cond.instanceMethod yX11_packed ∈ lw_tbl := List.mem_of_getElem? (i := 1656) rfl
set_option maxRecDepth 100000 in
theorem pm_me_193 : Cond.selects (pm_R 11) yX11_packed yX11_packed ∈ lw_tbl := List.mem_of_getElem? (i := 90) rfl
set_option maxRecDepth 100000 in
theorem pm_mc_194 : Cond.code yX11_pairOf cX11_pairOf 4 (some (.int)) ∈ lw_tbl := List.mem_of_getElem? (i := 1523) rfl
set_option maxRecDepth 100000 in
theorem pm_mi_194 : Cond.instanceMethod yX11_pairOf ∈ lw_tbl := List.mem_of_getElem? (i := 1522) rfl
set_option maxRecDepth 100000 in
theorem pm_me_194 : Cond.selects (pm_R 11) yX11_pairOf yX11_pairOf ∈ lw_tbl := List.mem_of_getElem? (i := 70) rfl
set_option maxRecDepth 100000 in
theorem pm_mc_195 : Cond.code yX11_plays cX11_plays 6 (some (.int)) ∈ lw_tbl := List.mem_of_getElem? (i := 1665) rfl
set_option maxRecDepth 100000 in
theorem pm_mi_195 : Cond.instanceMethod yX11_plays ∈ lw_tbl := List.mem_of_getElem? (i := 1664) rfl
set_option maxRecDepth 100000 in
theorem pm_me_195 : Cond.selects (pm_R 11) yX11_plays yX11_plays ∈ lw_tbl := List.mem_of_getElem? (i := 92) rfl
set_option maxRecDepth 100000 in
theorem pm_mc_196 : Cond.code yX11_port cX11_port 2 (some (.int)) ∈ lw_tbl := List.mem_of_getElem? (i := 1397) rfl
set_option maxRecDepth 100000 in
theorem pm_mi_196 : Cond.instanceMethod yX11_port ∈ lw_tbl := List.mem_of_getElem? (i := 1395) rfl
set_option maxRecDepth 100000 in
theorem pm_me_196 : Cond.selects (pm_R 11) yX11_port yX11_port ∈ lw_tbl := List.mem_of_getElem? (i := 1396) rfl
set_option maxRecDepth 100000 in
theorem pm_mc_197 : Cond.code yX11_readAlt cX11_readAlt 2 (none) ∈ lw_tbl := List.mem_of_getElem? (i := 1488) rfl
set_option maxRecDepth 100000 in
theorem pm_mi_197 : Cond.instanceMethod yX11_readAlt ∈ lw_tbl := List.mem_of_getElem? (i := 1487) rfl
set_option maxRecDepth 100000 in
theorem pm_me_197 : Cond.selects (pm_R 11) yX11_readAlt yX11_readAlt ∈ lw_tbl := List.mem_of_getElem? (i := 66) rfl
set_option maxRecDepth 100000 in
theorem pm_mc_198 : Cond.code yX11_readLine cX11_readLine 3 (none) ∈ lw_tbl := List.mem_of_getElem? (i := 1428) rfl
set_option maxRecDepth 100000 in
theorem pm_mi_198 : Cond.instanceMethod yX11_readLine ∈ lw_tbl := List.mem_of_getElem? (i := 1427) rfl
set_option maxRecDepth 100000 in
theorem pm_me_198 : Cond.selects (pm_R 11) yX11_readLine yX11_readLine ∈ lw_tbl := List.mem_of_getElem? (i := 51) rfl
set_option maxRecDepth 100000 in
theorem pm_mc_199 : Cond.code yX11_readPair cX11_readPair 6 (none) ∈ lw_tbl := List.mem_of_getElem? (i := 1468) rfl
set_option maxRecDepth 100000 in
theorem pm_mi_199 : Cond.instanceMethod yX11_readPair ∈ lw_tbl := List.mem_of_getElem? (i := 1467) rfl
set_option maxRecDepth 100000 in
theorem pm_me_199 : Cond.selects (pm_R 11) yX11_readPair yX11_readPair ∈ lw_tbl := List.mem_of_getElem? (i := 61) rfl
set_option maxRecDepth 100000 in
theorem pm_mc_200 : Cond.code yX11_readRule cX11_readRule 2 (none) ∈ lw_tbl := List.mem_of_getElem? (i := 1476) rfl
set_option maxRecDepth 100000 in
theorem pm_mi_200 : Cond.instanceMethod yX11_readRule ∈ lw_tbl := List.mem_of_getElem? (i := 1475) rfl
set_option maxRecDepth 100000 in
theorem pm_me_200 : Cond.selects (pm_R 11) yX11_readRule yX11_readRule ∈ lw_tbl := List.mem_of_getElem? (i := 63) rfl
set_option maxRecDepth 100000 in
theorem pm_mc_201 : Cond.code yX11_readTurns cX11_readTurns 2 (none) ∈ lw_tbl := List.mem_of_getElem? (i := 1492) rfl
set_option maxRecDepth 100000 in
theorem pm_mi_201 : Cond.instanceMethod yX11_readTurns ∈ lw_tbl := List.mem_of_getElem? (i := 1491) rfl
set_option maxRecDepth 100000 in
theorem pm_me_201 : Cond.selects (pm_R 11) yX11_readTurns yX11_readTurns ∈ lw_tbl := List.mem_of_getElem? (i := 67) rfl
set_option maxRecDepth 100000 in
theorem pm_mc_202 : Cond.code yX11_readWord cX11_readWord 3 (none) ∈ lw_tbl := List.mem_of_getElem? (i := 1448) rfl
set_option maxRecDepth 100000 in
theorem pm_mi_202 : Cond.instanceMethod yX11_readWord ∈ lw_tbl := List.mem_of_getElem? (i := 1447) rfl
set_option maxRecDepth 100000 in
theorem pm_me_202 : Cond.selects (pm_R 11) yX11_readWord yX11_readWord ∈ lw_tbl := List.mem_of_getElem? (i := 56) rfl
set_option maxRecDepth 100000 in
theorem pm_mc_203 : Cond.code yX11_readings cX11_readings 1 (some (.int)) ∈ lw_tbl := List.mem_of_getElem? (i := 1575) rfl
set_option maxRecDepth 100000 in
theorem pm_mi_203 : Cond.instanceMethod yX11_readings ∈ lw_tbl := List.mem_of_getElem? (i := 1573) rfl
set_option maxRecDepth 100000 in
theorem pm_me_203 : Cond.selects (pm_R 11) yX11_readings yX11_readings ∈ lw_tbl := List.mem_of_getElem? (i := 1574) rfl
set_option maxRecDepth 100000 in
theorem pm_mc_204 : Cond.code yX11_readingsOf cX11_readingsOf 6 (some (.long)) ∈ lw_tbl := List.mem_of_getElem? (i := 1579) rfl
set_option maxRecDepth 100000 in
theorem pm_mi_204 : Cond.instanceMethod yX11_readingsOf ∈ lw_tbl := List.mem_of_getElem? (i := 1578) rfl
set_option maxRecDepth 100000 in
theorem pm_me_204 : Cond.selects (pm_R 11) yX11_readingsOf yX11_readingsOf ∈ lw_tbl := List.mem_of_getElem? (i := 80) rfl
set_option maxRecDepth 100000 in
theorem pm_mc_205 : Cond.code yX11_redo cX11_redo 1 (some (.boolean)) ∈ lw_tbl := List.mem_of_getElem? (i := 1619) rfl
set_option maxRecDepth 100000 in
theorem pm_mi_205 : Cond.instanceMethod yX11_redo ∈ lw_tbl := List.mem_of_getElem? (i := 1617) rfl
set_option maxRecDepth 100000 in
theorem pm_me_205 : Cond.selects (pm_R 11) yX11_redo yX11_redo ∈ lw_tbl := List.mem_of_getElem? (i := 1618) rfl
set_option maxRecDepth 100000 in
theorem pm_mc_206 : Cond.code yX11_ruleOf cX11_ruleOf 4 (some (.int)) ∈ lw_tbl := List.mem_of_getElem? (i := 1460) rfl
set_option maxRecDepth 100000 in
theorem pm_mi_206 : Cond.instanceMethod yX11_ruleOf ∈ lw_tbl := List.mem_of_getElem? (i := 1459) rfl
set_option maxRecDepth 100000 in
theorem pm_me_206 : Cond.selects (pm_R 11) yX11_ruleOf yX11_ruleOf ∈ lw_tbl := List.mem_of_getElem? (i := 59) rfl
set_option maxRecDepth 100000 in
theorem pm_mc_207 : Cond.code yX11_seen cX11_seen 4 (some (.int)) ∈ lw_tbl := List.mem_of_getElem? (i := 1777) rfl
set_option maxRecDepth 100000 in
theorem pm_mi_207 : Cond.instanceMethod yX11_seen ∈ lw_tbl := List.mem_of_getElem? (i := 1775) rfl
set_option maxRecDepth 100000 in
theorem pm_me_207 : Cond.selects (pm_R 11) yX11_seen yX11_seen ∈ lw_tbl := List.mem_of_getElem? (i := 1776) rfl
set_option maxRecDepth 100000 in
theorem pm_mc_208 : Cond.code yX11_sell cX11_sell 4 (some (.int)) ∈ lw_tbl := List.mem_of_getElem? (i := 1607) rfl
set_option maxRecDepth 100000 in
theorem pm_mi_208 : Cond.instanceMethod yX11_sell ∈ lw_tbl := List.mem_of_getElem? (i := 1605) rfl
set_option maxRecDepth 100000 in
theorem pm_me_208 : Cond.selects (pm_R 11) yX11_sell yX11_sell ∈ lw_tbl := List.mem_of_getElem? (i := 1606) rfl
set_option maxRecDepth 100000 in
theorem pm_mc_209 : Cond.code yX11_settle cX11_settle 5 (none) ∈ lw_tbl := List.mem_of_getElem? (i := 1496) rfl
set_option maxRecDepth 100000 in
theorem pm_mi_209 : Cond.instanceMethod yX11_settle ∈ lw_tbl := List.mem_of_getElem? (i := 1495) rfl
set_option maxRecDepth 100000 in
theorem pm_me_209 : Cond.selects (pm_R 11) yX11_settle yX11_settle ∈ lw_tbl := List.mem_of_getElem? (i := 68) rfl
set_option maxRecDepth 100000 in
theorem pm_mc_210 : Cond.code yX11_share cX11_share 7 (some (.int)) ∈ lw_tbl := List.mem_of_getElem? (i := 1701) rfl
set_option maxRecDepth 100000 in
theorem pm_mi_210 : Cond.instanceMethod yX11_share ∈ lw_tbl := List.mem_of_getElem? (i := 1699) rfl
set_option maxRecDepth 100000 in
theorem pm_me_210 : Cond.selects (pm_R 11) yX11_share yX11_share ∈ lw_tbl := List.mem_of_getElem? (i := 1700) rfl
set_option maxRecDepth 100000 in
theorem pm_mc_211 : Cond.code yX11_shortest cX11_shortest 2 (some (.int)) ∈ lw_tbl := List.mem_of_getElem? (i := 1744) rfl
set_option maxRecDepth 100000 in
theorem pm_mi_211 : Cond.instanceMethod yX11_shortest ∈ lw_tbl := List.mem_of_getElem? (i := 1742) rfl
set_option maxRecDepth 100000 in
theorem pm_me_211 : Cond.selects (pm_R 11) yX11_shortest yX11_shortest ∈ lw_tbl := List.mem_of_getElem? (i := 1743) rfl
set_option maxRecDepth 100000 in
theorem pm_mc_212 : Cond.code yX11_sign cX11_sign 2 (some (.int)) ∈ lw_tbl := List.mem_of_getElem? (i := 1405) rfl
set_option maxRecDepth 100000 in
theorem pm_mi_212 : Cond.instanceMethod yX11_sign ∈ lw_tbl := List.mem_of_getElem? (i := 1404) rfl
set_option maxRecDepth 100000 in
theorem pm_me_212 : Cond.selects (pm_R 11) yX11_sign yX11_sign ∈ lw_tbl := List.mem_of_getElem? (i := 49) rfl
set_option maxRecDepth 100000 in
theorem pm_mc_213 : Cond.code yX11_struck cX11_struck 6 (some (.int)) ∈ lw_tbl := List.mem_of_getElem? (i := 1769) rfl
set_option maxRecDepth 100000 in
theorem pm_mi_213 : Cond.instanceMethod yX11_struck ∈ lw_tbl := List.mem_of_getElem? (i := 1767) rfl
set_option maxRecDepth 100000 in
theorem pm_me_213 : Cond.selects (pm_R 11) yX11_struck yX11_struck ∈ lw_tbl := List.mem_of_getElem? (i := 1768) rfl
set_option maxRecDepth 100000 in
theorem pm_mc_214 : Cond.code yX11_sumOf cX11_sumOf 5 (some (.int)) ∈ lw_tbl := List.mem_of_getElem? (i := 1739) rfl
set_option maxRecDepth 100000 in
theorem pm_mi_214 : Cond.instanceMethod yX11_sumOf ∈ lw_tbl := List.mem_of_getElem? (i := 1738) rfl
set_option maxRecDepth 100000 in
theorem pm_me_214 : Cond.selects (pm_R 11) yX11_sumOf yX11_sumOf ∈ lw_tbl := List.mem_of_getElem? (i := 103) rfl
set_option maxRecDepth 100000 in
theorem pm_mc_215 : Cond.code yX11_swap cX11_swap 7 (some (.int)) ∈ lw_tbl := List.mem_of_getElem? (i := 1711) rfl
set_option maxRecDepth 100000 in
theorem pm_mi_215 : Cond.instanceMethod yX11_swap ∈ lw_tbl := List.mem_of_getElem? (i := 1709) rfl
set_option maxRecDepth 100000 in
theorem pm_me_215 : Cond.selects (pm_R 11) yX11_swap yX11_swap ∈ lw_tbl := List.mem_of_getElem? (i := 1710) rfl
set_option maxRecDepth 100000 in
theorem pm_mc_216 : Cond.code yX11_takeCharter cX11_takeCharter 2 (none) ∈ lw_tbl := List.mem_of_getElem? (i := 1653) rfl
set_option maxRecDepth 100000 in
theorem pm_mi_216 : Cond.instanceMethod yX11_takeCharter ∈ lw_tbl := List.mem_of_getElem? (i := 1652) rfl
set_option maxRecDepth 100000 in
theorem pm_me_216 : Cond.selects (pm_R 11) yX11_takeCharter yX11_takeCharter ∈ lw_tbl := List.mem_of_getElem? (i := 89) rfl
set_option maxRecDepth 100000 in
theorem pm_mc_217 : Cond.code yX11_toldTurn cX11_toldTurn 2 (some (.int)) ∈ lw_tbl := List.mem_of_getElem? (i := 1179) rfl
set_option maxRecDepth 100000 in
theorem pm_mi_217 : Cond.instanceMethod yX11_toldTurn ∈ lw_tbl := List.mem_of_getElem? (i := 1178) rfl
set_option maxRecDepth 100000 in
theorem pm_me_217 : Cond.selects (pm_R 11) yX11_toldTurn yX11_toldTurn ∈ lw_tbl := List.mem_of_getElem? (i := 47) rfl
set_option maxRecDepth 100000 in
theorem pm_mc_218 : Cond.code yX11_tryRow cX11_tryRow 2 (none) ∈ lw_tbl := List.mem_of_getElem? (i := 1551) rfl
set_option maxRecDepth 100000 in
theorem pm_mi_218 : Cond.instanceMethod yX11_tryRow ∈ lw_tbl := List.mem_of_getElem? (i := 1550) rfl
set_option maxRecDepth 100000 in
theorem pm_me_218 : Cond.selects (pm_R 11) yX11_tryRow yX11_tryRow ∈ lw_tbl := List.mem_of_getElem? (i := 74) rfl
set_option maxRecDepth 100000 in
theorem pm_mc_219 : Cond.code yX11_tryWithout cX11_tryWithout 4 (none) ∈ lw_tbl := List.mem_of_getElem? (i := 1773) rfl
set_option maxRecDepth 100000 in
theorem pm_mi_219 : Cond.instanceMethod yX11_tryWithout ∈ lw_tbl := List.mem_of_getElem? (i := 1772) rfl
set_option maxRecDepth 100000 in
theorem pm_me_219 : Cond.selects (pm_R 11) yX11_tryWithout yX11_tryWithout ∈ lw_tbl := List.mem_of_getElem? (i := 105) rfl
set_option maxRecDepth 100000 in
theorem pm_mc_220 : Cond.code yX11_turn cX11_turn 2 (some (.int)) ∈ lw_tbl := List.mem_of_getElem? (i := 1527) rfl
set_option maxRecDepth 100000 in
theorem pm_mi_220 : Cond.instanceMethod yX11_turn ∈ lw_tbl := List.mem_of_getElem? (i := 1525) rfl
set_option maxRecDepth 100000 in
theorem pm_me_220 : Cond.selects (pm_R 11) yX11_turn yX11_turn ∈ lw_tbl := List.mem_of_getElem? (i := 1526) rfl
set_option maxRecDepth 100000 in
theorem pm_mc_221 : Cond.code yX11_turnsByOrder cX11_turnsByOrder 3 (none) ∈ lw_tbl := List.mem_of_getElem? (i := 1727) rfl
set_option maxRecDepth 100000 in
theorem pm_mi_221 : Cond.instanceMethod yX11_turnsByOrder ∈ lw_tbl := List.mem_of_getElem? (i := 1726) rfl
set_option maxRecDepth 100000 in
theorem pm_me_221 : Cond.selects (pm_R 11) yX11_turnsByOrder yX11_turnsByOrder ∈ lw_tbl := List.mem_of_getElem? (i := 101) rfl
set_option maxRecDepth 100000 in
theorem pm_mc_222 : Cond.code yX11_turnsNow cX11_turnsNow 2 (none) ∈ lw_tbl := List.mem_of_getElem? (i := 1661) rfl
set_option maxRecDepth 100000 in
theorem pm_mi_222 : Cond.instanceMethod yX11_turnsNow ∈ lw_tbl := List.mem_of_getElem? (i := 1660) rfl
set_option maxRecDepth 100000 in
theorem pm_me_222 : Cond.selects (pm_R 11) yX11_turnsNow yX11_turnsNow ∈ lw_tbl := List.mem_of_getElem? (i := 91) rfl
set_option maxRecDepth 100000 in
theorem pm_mc_223 : Cond.code yX11_undo cX11_undo 1 (some (.boolean)) ∈ lw_tbl := List.mem_of_getElem? (i := 1611) rfl
set_option maxRecDepth 100000 in
theorem pm_mi_223 : Cond.instanceMethod yX11_undo ∈ lw_tbl := List.mem_of_getElem? (i := 1609) rfl
set_option maxRecDepth 100000 in
theorem pm_me_223 : Cond.selects (pm_R 11) yX11_undo yX11_undo ∈ lw_tbl := List.mem_of_getElem? (i := 1610) rfl
set_option maxRecDepth 100000 in
theorem pm_mc_224 : Cond.code yX11_unpack cX11_unpack 3 (none) ∈ lw_tbl := List.mem_of_getElem? (i := 1752) rfl
set_option maxRecDepth 100000 in
theorem pm_mi_224 : Cond.instanceMethod yX11_unpack ∈ lw_tbl := List.mem_of_getElem? (i := 1751) rfl
set_option maxRecDepth 100000 in
theorem pm_me_224 : Cond.selects (pm_R 11) yX11_unpack yX11_unpack ∈ lw_tbl := List.mem_of_getElem? (i := 104) rfl
set_option maxRecDepth 100000 in
theorem pm_mc_225 : Cond.code yX11_untell cX11_untell 2 (some (.boolean)) ∈ lw_tbl := List.mem_of_getElem? (i := 1781) rfl
set_option maxRecDepth 100000 in
theorem pm_mi_225 : Cond.instanceMethod yX11_untell ∈ lw_tbl := List.mem_of_getElem? (i := 1779) rfl
set_option maxRecDepth 100000 in
theorem pm_me_225 : Cond.selects (pm_R 11) yX11_untell yX11_untell ∈ lw_tbl := List.mem_of_getElem? (i := 1780) rfl
set_option maxRecDepth 100000 in
theorem pm_mc_226 : Cond.code yX11_used cX11_used 5 (some (.int)) ∈ lw_tbl := List.mem_of_getElem? (i := 1731) rfl
set_option maxRecDepth 100000 in
theorem pm_mi_226 : Cond.instanceMethod yX11_used ∈ lw_tbl := List.mem_of_getElem? (i := 1729) rfl
set_option maxRecDepth 100000 in
theorem pm_me_226 : Cond.selects (pm_R 11) yX11_used yX11_used ∈ lw_tbl := List.mem_of_getElem? (i := 1730) rfl
set_option maxRecDepth 100000 in
theorem pm_mc_227 : Cond.code yX11_waysBy cX11_waysBy 7 (some (.long)) ∈ lw_tbl := List.mem_of_getElem? (i := 1583) rfl
set_option maxRecDepth 100000 in
theorem pm_mi_227 : Cond.instanceMethod yX11_waysBy ∈ lw_tbl := List.mem_of_getElem? (i := 1582) rfl
set_option maxRecDepth 100000 in
theorem pm_me_227 : Cond.selects (pm_R 11) yX11_waysBy yX11_waysBy ∈ lw_tbl := List.mem_of_getElem? (i := 81) rfl
set_option maxRecDepth 100000 in
theorem pm_mc_228 : Cond.code yX11_wipe cX11_wipe 2 (some (.int)) ∈ lw_tbl := List.mem_of_getElem? (i := 1623) rfl
set_option maxRecDepth 100000 in
theorem pm_mi_228 : Cond.instanceMethod yX11_wipe ∈ lw_tbl := List.mem_of_getElem? (i := 1621) rfl
set_option maxRecDepth 100000 in
theorem pm_me_228 : Cond.selects (pm_R 11) yX11_wipe yX11_wipe ∈ lw_tbl := List.mem_of_getElem? (i := 1622) rfl
set_option maxRecDepth 100000 in
theorem pm_mc_229 : Cond.code yX11_word cX11_word 2 (some (.int)) ∈ lw_tbl := List.mem_of_getElem? (i := 1539) rfl
set_option maxRecDepth 100000 in
theorem pm_mi_229 : Cond.instanceMethod yX11_word ∈ lw_tbl := List.mem_of_getElem? (i := 1537) rfl
set_option maxRecDepth 100000 in
theorem pm_me_229 : Cond.selects (pm_R 11) yX11_word yX11_word ∈ lw_tbl := List.mem_of_getElem? (i := 1538) rfl
set_option maxRecDepth 100000 in
theorem pm_mc_230 : Cond.code yX11_wordIn cX11_wordIn 3 (some (.int)) ∈ lw_tbl := List.mem_of_getElem? (i := 1681) rfl
set_option maxRecDepth 100000 in
theorem pm_mi_230 : Cond.instanceMethod yX11_wordIn ∈ lw_tbl := List.mem_of_getElem? (i := 1680) rfl
set_option maxRecDepth 100000 in
theorem pm_me_230 : Cond.selects (pm_R 11) yX11_wordIn yX11_wordIn ∈ lw_tbl := List.mem_of_getElem? (i := 96) rfl
set_option maxRecDepth 100000 in
theorem pm_mc_231 : Cond.code yX11_wordOf cX11_wordOf 4 (some (.int)) ∈ lw_tbl := List.mem_of_getElem? (i := 1456) rfl
set_option maxRecDepth 100000 in
theorem pm_mi_231 : Cond.instanceMethod yX11_wordOf ∈ lw_tbl := List.mem_of_getElem? (i := 1455) rfl
set_option maxRecDepth 100000 in
theorem pm_me_231 : Cond.selects (pm_R 11) yX11_wordOf yX11_wordOf ∈ lw_tbl := List.mem_of_getElem? (i := 58) rfl
set_option maxRecDepth 100000 in
theorem pm_mc_232 : Cond.code yX11_worth cX11_worth 3 (some (.int)) ∈ lw_tbl := List.mem_of_getElem? (i := 1504) rfl
set_option maxRecDepth 100000 in
theorem pm_mi_232 : Cond.instanceMethod yX11_worth ∈ lw_tbl := List.mem_of_getElem? (i := 1502) rfl
set_option maxRecDepth 100000 in
theorem pm_me_232 : Cond.selects (pm_R 11) yX11_worth yX11_worth ∈ lw_tbl := List.mem_of_getElem? (i := 1503) rfl
set_option maxRecDepth 100000 in
theorem pm_mc_233 : Cond.code yX11_write cX11_write 2 (some (.int)) ∈ lw_tbl := List.mem_of_getElem? (i := 1599) rfl
set_option maxRecDepth 100000 in
theorem pm_mi_233 : Cond.instanceMethod yX11_write ∈ lw_tbl := List.mem_of_getElem? (i := 1597) rfl
set_option maxRecDepth 100000 in
theorem pm_me_233 : Cond.selects (pm_R 11) yX11_write yX11_write ∈ lw_tbl := List.mem_of_getElem? (i := 1598) rfl
set_option maxRecDepth 100000 in
theorem pm_mc_234 : Cond.code yX11_written cX11_written 3 (some (.int)) ∈ lw_tbl := List.mem_of_getElem? (i := 1631) rfl
set_option maxRecDepth 100000 in
theorem pm_mi_234 : Cond.instanceMethod yX11_written ∈ lw_tbl := List.mem_of_getElem? (i := 1629) rfl
set_option maxRecDepth 100000 in
theorem pm_me_234 : Cond.selects (pm_R 11) yX11_written yX11_written ∈ lw_tbl := List.mem_of_getElem? (i := 1630) rfl
set_option maxRecDepth 100000 in
theorem pm_mc_235 : Cond.code yJ7_fill_53178 cJ7_fill_53178 4 (none) ∈ lw_tbl := List.mem_of_getElem? (i := 360) rfl
set_option maxRecDepth 100000 in
theorem pm_ms_235 : Cond.static yJ7_fill_53178 ∈ lw_tbl := List.mem_of_getElem? (i := 359) rfl
set_option maxRecDepth 100000 in
theorem pm_in_0 : Cond.initialized (pm_R 0) ∈ lw_tbl := List.mem_of_getElem? (i := 116) rfl
set_option maxRecDepth 100000 in
theorem pm_in_1 : Cond.initialized (pm_R 1) ∈ lw_tbl := List.mem_of_getElem? (i := 118) rfl
set_option maxRecDepth 100000 in
theorem pm_in_2 : Cond.initialized (pm_R 2) ∈ lw_tbl := List.mem_of_getElem? (i := 109) rfl
set_option maxRecDepth 100000 in
theorem pm_in_3 : Cond.initialized (pm_R 3) ∈ lw_tbl := List.mem_of_getElem? (i := 121) rfl
set_option maxRecDepth 100000 in
theorem pm_in_4 : Cond.initialized (pm_R 4) ∈ lw_tbl := List.mem_of_getElem? (i := 115) rfl
set_option maxRecDepth 100000 in
theorem pm_in_5 : Cond.initialized (pm_R 5) ∈ lw_tbl := List.mem_of_getElem? (i := 119) rfl
set_option maxRecDepth 100000 in
theorem pm_in_6 : Cond.initialized (pm_R 6) ∈ lw_tbl := List.mem_of_getElem? (i := 123) rfl
set_option maxRecDepth 100000 in
theorem pm_in_7 : Cond.initialized (pm_R 7) ∈ lw_tbl := List.mem_of_getElem? (i := 120) rfl
set_option maxRecDepth 100000 in
theorem pm_in_8 : Cond.initialized (pm_R 8) ∈ lw_tbl := List.mem_of_getElem? (i := 110) rfl
set_option maxRecDepth 100000 in
theorem pm_in_9 : Cond.initialized (pm_R 9) ∈ lw_tbl := List.mem_of_getElem? (i := 122) rfl
set_option maxRecDepth 100000 in
theorem pm_in_10 : Cond.initialized (pm_R 10) ∈ lw_tbl := List.mem_of_getElem? (i := 108) rfl
set_option maxRecDepth 100000 in
theorem pm_in_11 : Cond.initialized (pm_R 11) ∈ lw_tbl := List.mem_of_getElem? (i := 124) rfl
set_option maxRecDepth 100000 in
theorem pm_in_13 : Cond.initialized (pm_R 13) ∈ lw_tbl := List.mem_of_getElem? (i := 117) rfl
