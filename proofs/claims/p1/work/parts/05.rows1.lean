theorem dX10_init_121 : decode cX10_init 121 = .ok (.dup, 1) := by decide +kernel
theorem dX10_init_122 : decode cX10_init 122 = .ok (.invokespecial 60, 3) := by decide +kernel
theorem dX10_init_125 : decode cX10_init 125 = .ok (.putfield 61, 3) := by decide +kernel
theorem dX10_init_128 : decode cX10_init 128 = .ok (.aload_n 0, 1) := by decide +kernel
theorem dX10_init_129 : decode cX10_init 129 = .ok (.new 65, 3) := by decide +kernel
theorem dX10_init_132 : decode cX10_init 132 = .ok (.dup, 1) := by decide +kernel
theorem dX10_init_133 : decode cX10_init 133 = .ok (.invokespecial 67, 3) := by decide +kernel
theorem dX10_init_136 : decode cX10_init 136 = .ok (.putfield 68, 3) := by decide +kernel
theorem dX10_init_139 : decode cX10_init 139 = .ok (.aload_n 0, 1) := by decide +kernel
theorem dX10_init_140 : decode cX10_init 140 = .ok (.new 65, 3) := by decide +kernel
theorem dX10_init_143 : decode cX10_init 143 = .ok (.dup, 1) := by decide +kernel
theorem dX10_init_144 : decode cX10_init 144 = .ok (.invokespecial 67, 3) := by decide +kernel
theorem dX10_init_147 : decode cX10_init 147 = .ok (.putfield 72, 3) := by decide +kernel
theorem dX10_init_150 : decode cX10_init 150 = .ok (.aload_n 0, 1) := by decide +kernel
theorem dX10_init_151 : decode cX10_init 151 = .ok (.new 65, 3) := by decide +kernel
theorem dX10_init_154 : decode cX10_init 154 = .ok (.dup, 1) := by decide +kernel
theorem dX10_init_155 : decode cX10_init 155 = .ok (.invokespecial 67, 3) := by decide +kernel
theorem dX10_init_158 : decode cX10_init 158 = .ok (.putfield 75, 3) := by decide +kernel
theorem dX10_init_161 : decode cX10_init 161 = .ok (.aload_n 0, 1) := by decide +kernel
theorem dX10_init_162 : decode cX10_init 162 = .ok (.new 78, 3) := by decide +kernel
theorem dX10_init_165 : decode cX10_init 165 = .ok (.dup, 1) := by decide +kernel
theorem dX10_init_166 : decode cX10_init 166 = .ok (.invokespecial 80, 3) := by decide +kernel
theorem dX10_init_169 : decode cX10_init 169 = .ok (.putfield 81, 3) := by decide +kernel
theorem dX10_init_172 : decode cX10_init 172 = .ok (.aload_n 0, 1) := by decide +kernel
theorem dX10_init_173 : decode cX10_init 173 = .ok (.bipush 6, 2) := by decide +kernel
theorem dX10_init_175 : decode cX10_init 175 = .ok (.newarray .int, 2) := by decide +kernel
theorem dX10_init_177 : decode cX10_init 177 = .ok (.putfield 85, 3) := by decide +kernel
theorem dX10_init_180 : decode cX10_init 180 = .ok (.aload_n 0, 1) := by decide +kernel
theorem dX10_init_181 : decode cX10_init 181 = .ok (.bipush 16, 2) := by decide +kernel
theorem dX10_init_183 : decode cX10_init 183 = .ok (.newarray .int, 2) := by decide +kernel
theorem dX10_init_185 : decode cX10_init 185 = .ok (.putfield 89, 3) := by decide +kernel
theorem dX10_init_188 : decode cX10_init 188 = .ok (.return_, 1) := by decide +kernel
set_option maxRecDepth 20000 in
theorem ggX10_feed_X10_tapeNumber : GoodIn wsX10_feed wsX10_tapeNumber := goodIn_r _ [6, 1, 7, 8, 9, 10, 11, 12, 13, 14, 15, 16, 17, 18, 19, 20, 21, 22, 23, 24, 25] (by decide +kernel) (by decide +kernel)
set_option maxRecDepth 20000 in
theorem gX10_feed_X10_tapeNumber : GoodIn wsX10_feed (wsV RX10 96 RX10 yX10_tapeNumber wsX10_tapeNumber) := goodIn_app (goodIn_of _ (by decide +kernel)) ggX10_feed_X10_tapeNumber
theorem dX10_feed_0 : decode cX10_feed 0 = .ok (.aload_n 0, 1) := by decide +kernel
theorem dX10_feed_1 : decode cX10_feed 1 = .ok (.getfield 92, 3) := by decide +kernel
theorem dX10_feed_4 : decode cX10_feed 4 = .ok (.bipush 20, 2) := by decide +kernel
theorem dX10_feed_6 : decode cX10_feed 6 = .ok (.iadd, 1) := by decide +kernel
theorem dX10_feed_7 : decode cX10_feed 7 = .ok (.sipush 1600, 3) := by decide +kernel
theorem dX10_feed_10 : decode cX10_feed 10 = .ok (.if_icmp .le 5, 3) := by decide +kernel
theorem dX10_feed_15 : decode cX10_feed 15 = .ok (.aload_n 0, 1) := by decide +kernel
theorem dX10_feed_16 : decode cX10_feed 16 = .ok (.iload_n 1, 1) := by decide +kernel
theorem dX10_feed_17 : decode cX10_feed 17 = .ok (.invokevirtual 96, 3) := by decide +kernel
theorem dX10_feed_20 : decode cX10_feed 20 = .ok (.aload_n 0, 1) := by decide +kernel
theorem dX10_feed_21 : decode cX10_feed 21 = .ok (.iload_n 2, 1) := by decide +kernel
theorem dX10_feed_22 : decode cX10_feed 22 = .ok (.invokevirtual 96, 3) := by decide +kernel
theorem dX10_feed_25 : decode cX10_feed 25 = .ok (.aload_n 0, 1) := by decide +kernel
theorem dX10_feed_26 : decode cX10_feed 26 = .ok (.iload_n 3, 1) := by decide +kernel
theorem dX10_feed_27 : decode cX10_feed 27 = .ok (.invokevirtual 96, 3) := by decide +kernel
theorem dX10_feed_30 : decode cX10_feed 30 = .ok (.aload_n 0, 1) := by decide +kernel
theorem dX10_feed_31 : decode cX10_feed 31 = .ok (.iload 4, 2) := by decide +kernel
theorem dX10_feed_33 : decode cX10_feed 33 = .ok (.invokevirtual 96, 3) := by decide +kernel
theorem dX10_feed_36 : decode cX10_feed 36 = .ok (.aload_n 0, 1) := by decide +kernel
theorem dX10_feed_37 : decode cX10_feed 37 = .ok (.iload 5, 2) := by decide +kernel
theorem dX10_feed_39 : decode cX10_feed 39 = .ok (.invokevirtual 96, 3) := by decide +kernel
theorem dX10_feed_42 : decode cX10_feed 42 = .ok (.aload_n 0, 1) := by decide +kernel
theorem dX10_feed_43 : decode cX10_feed 43 = .ok (.getfield 92, 3) := by decide +kernel
theorem dX10_feed_46 : decode cX10_feed 46 = .ok (.ireturn, 1) := by decide +kernel
theorem dX10_tapeNumber_0 : decode cX10_tapeNumber 0 = .ok (.bipush 24, 2) := by decide +kernel
theorem dX10_tapeNumber_2 : decode cX10_tapeNumber 2 = .ok (.istore_n 2, 1) := by decide +kernel
theorem dX10_tapeNumber_3 : decode cX10_tapeNumber 3 = .ok (.iload_n 2, 1) := by decide +kernel
theorem dX10_tapeNumber_4 : decode cX10_tapeNumber 4 = .ok (.ifCond .lt 42, 3) := by decide +kernel
theorem dX10_tapeNumber_7 : decode cX10_tapeNumber 7 = .ok (.aload_n 0, 1) := by decide +kernel
theorem dX10_tapeNumber_8 : decode cX10_tapeNumber 8 = .ok (.getfield 92, 3) := by decide +kernel
theorem dX10_tapeNumber_11 : decode cX10_tapeNumber 11 = .ok (.sipush 1600, 3) := by decide +kernel
theorem dX10_tapeNumber_14 : decode cX10_tapeNumber 14 = .ok (.if_icmp .ge 26, 3) := by decide +kernel
theorem dX10_tapeNumber_17 : decode cX10_tapeNumber 17 = .ok (.aload_n 0, 1) := by decide +kernel
theorem dX10_tapeNumber_18 : decode cX10_tapeNumber 18 = .ok (.getfield 9, 3) := by decide +kernel
theorem dX10_tapeNumber_21 : decode cX10_tapeNumber 21 = .ok (.aload_n 0, 1) := by decide +kernel
theorem dX10_tapeNumber_22 : decode cX10_tapeNumber 22 = .ok (.getfield 92, 3) := by decide +kernel
theorem dX10_tapeNumber_25 : decode cX10_tapeNumber 25 = .ok (.iload_n 1, 1) := by decide +kernel
theorem dX10_tapeNumber_26 : decode cX10_tapeNumber 26 = .ok (.iload_n 2, 1) := by decide +kernel
theorem dX10_tapeNumber_27 : decode cX10_tapeNumber 27 = .ok (.ishr, 1) := by decide +kernel
theorem dX10_tapeNumber_28 : decode cX10_tapeNumber 28 = .ok (.i2b, 1) := by decide +kernel
theorem dX10_tapeNumber_29 : decode cX10_tapeNumber 29 = .ok (.bastore, 1) := by decide +kernel
theorem dX10_tapeNumber_30 : decode cX10_tapeNumber 30 = .ok (.aload_n 0, 1) := by decide +kernel
theorem dX10_tapeNumber_31 : decode cX10_tapeNumber 31 = .ok (.dup, 1) := by decide +kernel
theorem dX10_tapeNumber_32 : decode cX10_tapeNumber 32 = .ok (.getfield 92, 3) := by decide +kernel
theorem dX10_tapeNumber_35 : decode cX10_tapeNumber 35 = .ok (.iconst 1, 1) := by decide +kernel
theorem dX10_tapeNumber_36 : decode cX10_tapeNumber 36 = .ok (.iadd, 1) := by decide +kernel
theorem dX10_tapeNumber_37 : decode cX10_tapeNumber 37 = .ok (.putfield 92, 3) := by decide +kernel
theorem dX10_tapeNumber_40 : decode cX10_tapeNumber 40 = .ok (.iinc 2 (-8), 3) := by decide +kernel
theorem dX10_tapeNumber_43 : decode cX10_tapeNumber 43 = .ok (.goto (-40), 3) := by decide +kernel
theorem dX10_tapeNumber_46 : decode cX10_tapeNumber 46 = .ok (.return_, 1) := by decide +kernel
theorem dX10_end_0 : decode cX10_end 0 = .ok (.iload_n 1, 1) := by decide +kernel
theorem dX10_end_1 : decode cX10_end 1 = .ok (.ifCond .lt 11, 3) := by decide +kernel
theorem dX10_end_4 : decode cX10_end 4 = .ok (.iload_n 1, 1) := by decide +kernel
theorem dX10_end_5 : decode cX10_end 5 = .ok (.aload_n 0, 1) := by decide +kernel
theorem dX10_end_6 : decode cX10_end 6 = .ok (.getfield 92, 3) := by decide +kernel
theorem dX10_end_9 : decode cX10_end 9 = .ok (.if_icmp .le 5, 3) := by decide +kernel
theorem dX10_end_12 : decode cX10_end 12 = .ok (.iconst (-1), 1) := by decide +kernel
theorem dX10_end_13 : decode cX10_end 13 = .ok (.ireturn, 1) := by decide +kernel
theorem dX10_end_14 : decode cX10_end 14 = .ok (.aload_n 0, 1) := by decide +kernel
theorem dX10_end_15 : decode cX10_end 15 = .ok (.iload_n 1, 1) := by decide +kernel
theorem dX10_end_16 : decode cX10_end 16 = .ok (.putfield 92, 3) := by decide +kernel
theorem dX10_end_19 : decode cX10_end 19 = .ok (.iload_n 1, 1) := by decide +kernel
theorem dX10_end_20 : decode cX10_end 20 = .ok (.ireturn, 1) := by decide +kernel
set_option maxRecDepth 20000 in
theorem ggX10_port_X2_readsInto : GoodIn wsX10_port wsX2_readsInto := goodIn_r _ [11, 12, 13, 14, 15, 16, 17, 18, 19, 20, 21, 22, 23, 24, 25, 26, 27, 28, 29, 30, 31, 32, 33, 34, 35, 36, 37, 38, 39, 40, 41, 42, 43, 44, 45, 46, 47, 48, 49, 50, 51, 52, 53, 54, 55, 56, 57, 58, 59, 60, 61, 62, 63, 64, 65, 66, 67, 68, 69, 70, 71, 72, 10, 73, 74, 75, 76, 77, 78, 79, 80, 81, 82, 83, 84, 85, 86, 87, 88, 89, 90, 91, 92, 93, 94, 95, 96, 97, 98, 99, 100, 101, 102, 103, 104, 105, 106, 107, 108, 109, 110, 111, 112, 113, 114, 115, 116, 117, 118, 119, 120, 121, 122, 123, 124, 125, 126, 127, 128, 129, 130, 131, 132, 133, 134, 135, 136, 137, 138, 139, 140, 141, 142, 143, 144, 145, 146, 147, 148, 149, 150, 151, 152, 153, 154, 155, 156, 157, 158, 159, 160, 161, 162, 246, 247, 248, 249, 250, 251, 252, 253, 254, 255, 256, 257, 258, 259, 230, 231, 232, 233, 234, 235, 236, 237, 238, 239, 240, 241, 242, 243, 244, 245] (by decide +kernel) (by decide +kernel)
set_option maxRecDepth 20000 in
theorem gX10_port_X2_readsInto : GoodIn wsX10_port (wsV RX10 100 RX2 yX2_readsInto wsX2_readsInto) := goodIn_app (goodIn_of _ (by decide +kernel)) ggX10_port_X2_readsInto
set_option maxRecDepth 20000 in
theorem ggX10_port_X10_forgetOldPort : GoodIn wsX10_port wsX10_forgetOldPort := goodIn_r _ [167, 168, 169, 170, 171, 172, 173, 174, 175, 176, 177, 178, 179, 180, 181, 182, 183, 184, 185, 186, 187, 32, 33, 34, 188, 189, 190, 191, 192, 193, 194, 195, 196, 197, 198, 199, 200, 201, 202, 203, 204, 205, 206, 207, 208, 209, 210, 211, 212, 213, 214, 215, 216, 217, 218, 219, 220, 221, 222, 223, 224, 225, 226, 227, 228, 229, 260, 261, 262, 263, 264, 265, 266, 267, 268, 269, 270, 271, 272, 273, 274, 275, 276, 277, 278, 279, 280, 281, 282, 283, 284, 285, 286, 287, 288, 289, 290, 291, 292, 293, 294, 295, 296, 297, 298, 299, 300, 301, 302] (by decide +kernel) (by decide +kernel)
set_option maxRecDepth 20000 in
theorem gX10_port_X10_forgetOldPort : GoodIn wsX10_port (wsV RX10 104 RX10 yX10_forgetOldPort wsX10_forgetOldPort) := goodIn_app (goodIn_of _ (by decide +kernel)) ggX10_port_X10_forgetOldPort
theorem dX10_port_0 : decode cX10_port 0 = .ok (.aload_n 0, 1) := by decide +kernel
theorem dX10_port_1 : decode cX10_port 1 = .ok (.getfield 16, 3) := by decide +kernel
theorem dX10_port_4 : decode cX10_port 4 = .ok (.aload_n 0, 1) := by decide +kernel
theorem dX10_port_5 : decode cX10_port 5 = .ok (.getfield 27, 3) := by decide +kernel
theorem dX10_port_8 : decode cX10_port 8 = .ok (.aload_n 0, 1) := by decide +kernel
theorem dX10_port_9 : decode cX10_port 9 = .ok (.getfield 9, 3) := by decide +kernel
theorem dX10_port_12 : decode cX10_port 12 = .ok (.aload_n 0, 1) := by decide +kernel
theorem dX10_port_13 : decode cX10_port 13 = .ok (.getfield 92, 3) := by decide +kernel
theorem dX10_port_16 : decode cX10_port 16 = .ok (.invokevirtual 100, 3) := by decide +kernel
theorem dX10_port_19 : decode cX10_port 19 = .ok (.ifCond .ne 5, 3) := by decide +kernel
theorem dX10_port_24 : decode cX10_port 24 = .ok (.aload_n 0, 1) := by decide +kernel
theorem dX10_port_25 : decode cX10_port 25 = .ok (.getfield 23, 3) := by decide +kernel
theorem dX10_port_28 : decode cX10_port 28 = .ok (.astore_n 1, 1) := by decide +kernel
theorem dX10_port_29 : decode cX10_port 29 = .ok (.aload_n 0, 1) := by decide +kernel
theorem dX10_port_30 : decode cX10_port 30 = .ok (.aload_n 0, 1) := by decide +kernel
theorem dX10_port_31 : decode cX10_port 31 = .ok (.getfield 27, 3) := by decide +kernel
theorem dX10_port_34 : decode cX10_port 34 = .ok (.putfield 23, 3) := by decide +kernel
theorem dX10_port_37 : decode cX10_port 37 = .ok (.aload_n 0, 1) := by decide +kernel
theorem dX10_port_38 : decode cX10_port 38 = .ok (.aload_n 1, 1) := by decide +kernel
theorem dX10_port_39 : decode cX10_port 39 = .ok (.putfield 27, 3) := by decide +kernel
theorem dX10_port_42 : decode cX10_port 42 = .ok (.aload_n 0, 1) := by decide +kernel
theorem dX10_port_43 : decode cX10_port 43 = .ok (.iconst 0, 1) := by decide +kernel
theorem dX10_port_44 : decode cX10_port 44 = .ok (.putfield 92, 3) := by decide +kernel
theorem dX10_port_47 : decode cX10_port 47 = .ok (.aload_n 0, 1) := by decide +kernel
theorem dX10_port_48 : decode cX10_port 48 = .ok (.invokevirtual 104, 3) := by decide +kernel
theorem dX10_port_51 : decode cX10_port 51 = .ok (.aload_n 0, 1) := by decide +kernel
theorem dX10_port_52 : decode cX10_port 52 = .ok (.getfield 23, 3) := by decide +kernel
theorem dX10_port_55 : decode cX10_port 55 = .ok (.getfield 107, 3) := by decide +kernel
theorem dX10_port_58 : decode cX10_port 58 = .ok (.ireturn, 1) := by decide +kernel
set_option maxRecDepth 20000 in
theorem ggX10_forgetOldPort_X0_empty : GoodIn wsX10_forgetOldPort wsX0_empty := goodIn_r _ [17, 18, 19, 20, 21, 22, 23, 24, 25, 26, 16, 27, 28, 29, 77, 78, 79, 80, 81, 82, 83, 84, 85] (by decide +kernel) (by decide +kernel)
set_option maxRecDepth 20000 in
theorem gX10_forgetOldPort_X0_empty : GoodIn wsX10_forgetOldPort (wsV RX10 110 RX0 yX0_empty wsX0_empty) := goodIn_app (goodIn_of _ (by decide +kernel)) ggX10_forgetOldPort_X0_empty
set_option maxRecDepth 20000 in
theorem ggX10_forgetOldPort_X7_forget : GoodIn wsX10_forgetOldPort wsX7_forget := goodIn_r _ [34, 35, 86, 87, 88] (by decide +kernel) (by decide +kernel)
set_option maxRecDepth 20000 in
theorem gX10_forgetOldPort_X7_forget : GoodIn wsX10_forgetOldPort (wsV RX10 117 RX7 yX7_forget wsX7_forget) := goodIn_app (goodIn_of _ (by decide +kernel)) ggX10_forgetOldPort_X7_forget
set_option maxRecDepth 20000 in
theorem ggX10_forgetOldPort_X9_forget : GoodIn wsX10_forgetOldPort wsX9_forget := goodIn_r _ [40, 41, 89, 90, 91, 92, 93, 94, 95, 96, 97, 98, 99] (by decide +kernel) (by decide +kernel)
set_option maxRecDepth 20000 in
theorem gX10_forgetOldPort_X9_forget : GoodIn wsX10_forgetOldPort (wsV RX10 120 RX9 yX9_forget wsX9_forget) := goodIn_app (goodIn_of _ (by decide +kernel)) ggX10_forgetOldPort_X9_forget
set_option maxRecDepth 20000 in
theorem ggX10_forgetOldPort_X3_forget : GoodIn wsX10_forgetOldPort wsX3_forget := goodIn_r _ [46, 47, 100, 101, 102, 103, 104, 105, 106, 107, 108] (by decide +kernel) (by decide +kernel)
set_option maxRecDepth 20000 in
theorem gX10_forgetOldPort_X3_forget : GoodIn wsX10_forgetOldPort (wsV RX10 121 RX3 yX3_forget wsX3_forget) := goodIn_app (goodIn_of _ (by decide +kernel)) ggX10_forgetOldPort_X3_forget
theorem dX10_forgetOldPort_0 : decode cX10_forgetOldPort 0 = .ok (.aload_n 0, 1) := by decide +kernel
theorem dX10_forgetOldPort_1 : decode cX10_forgetOldPort 1 = .ok (.getfield 33, 3) := by decide +kernel
theorem dX10_forgetOldPort_4 : decode cX10_forgetOldPort 4 = .ok (.invokevirtual 110, 3) := by decide +kernel
theorem dX10_forgetOldPort_7 : decode cX10_forgetOldPort 7 = .ok (.iconst 0, 1) := by decide +kernel
theorem dX10_forgetOldPort_8 : decode cX10_forgetOldPort 8 = .ok (.istore_n 1, 1) := by decide +kernel
theorem dX10_forgetOldPort_9 : decode cX10_forgetOldPort 9 = .ok (.iload_n 1, 1) := by decide +kernel
theorem dX10_forgetOldPort_10 : decode cX10_forgetOldPort 10 = .ok (.iconst 3, 1) := by decide +kernel
theorem dX10_forgetOldPort_11 : decode cX10_forgetOldPort 11 = .ok (.if_icmp .ge 19, 3) := by decide +kernel
theorem dX10_forgetOldPort_14 : decode cX10_forgetOldPort 14 = .ok (.aload_n 0, 1) := by decide +kernel
theorem dX10_forgetOldPort_15 : decode cX10_forgetOldPort 15 = .ok (.getfield 40, 3) := by decide +kernel
theorem dX10_forgetOldPort_18 : decode cX10_forgetOldPort 18 = .ok (.iload_n 1, 1) := by decide +kernel
theorem dX10_forgetOldPort_19 : decode cX10_forgetOldPort 19 = .ok (.aaload, 1) := by decide +kernel
theorem dX10_forgetOldPort_20 : decode cX10_forgetOldPort 20 = .ok (.iconst 0, 1) := by decide +kernel
theorem dX10_forgetOldPort_21 : decode cX10_forgetOldPort 21 = .ok (.putfield 113, 3) := by decide +kernel
theorem dX10_forgetOldPort_24 : decode cX10_forgetOldPort 24 = .ok (.iinc 1 1, 3) := by decide +kernel
theorem dX10_forgetOldPort_27 : decode cX10_forgetOldPort 27 = .ok (.goto (-18), 3) := by decide +kernel
theorem dX10_forgetOldPort_30 : decode cX10_forgetOldPort 30 = .ok (.aload_n 0, 1) := by decide +kernel
theorem dX10_forgetOldPort_31 : decode cX10_forgetOldPort 31 = .ok (.getfield 54, 3) := by decide +kernel
theorem dX10_forgetOldPort_34 : decode cX10_forgetOldPort 34 = .ok (.invokevirtual 117, 3) := by decide +kernel
theorem dX10_forgetOldPort_37 : decode cX10_forgetOldPort 37 = .ok (.aload_n 0, 1) := by decide +kernel
theorem dX10_forgetOldPort_38 : decode cX10_forgetOldPort 38 = .ok (.getfield 68, 3) := by decide +kernel
theorem dX10_forgetOldPort_41 : decode cX10_forgetOldPort 41 = .ok (.invokevirtual 120, 3) := by decide +kernel
theorem dX10_forgetOldPort_44 : decode cX10_forgetOldPort 44 = .ok (.aload_n 0, 1) := by decide +kernel
theorem dX10_forgetOldPort_45 : decode cX10_forgetOldPort 45 = .ok (.getfield 72, 3) := by decide +kernel
theorem dX10_forgetOldPort_48 : decode cX10_forgetOldPort 48 = .ok (.invokevirtual 120, 3) := by decide +kernel
theorem dX10_forgetOldPort_51 : decode cX10_forgetOldPort 51 = .ok (.aload_n 0, 1) := by decide +kernel
theorem dX10_forgetOldPort_52 : decode cX10_forgetOldPort 52 = .ok (.getfield 75, 3) := by decide +kernel
theorem dX10_forgetOldPort_55 : decode cX10_forgetOldPort 55 = .ok (.invokevirtual 120, 3) := by decide +kernel
theorem dX10_forgetOldPort_58 : decode cX10_forgetOldPort 58 = .ok (.aload_n 0, 1) := by decide +kernel
theorem dX10_forgetOldPort_59 : decode cX10_forgetOldPort 59 = .ok (.getfield 61, 3) := by decide +kernel
theorem dX10_forgetOldPort_62 : decode cX10_forgetOldPort 62 = .ok (.invokevirtual 121, 3) := by decide +kernel
theorem dX10_forgetOldPort_65 : decode cX10_forgetOldPort 65 = .ok (.aload_n 0, 1) := by decide +kernel
theorem dX10_forgetOldPort_66 : decode cX10_forgetOldPort 66 = .ok (.iconst 0, 1) := by decide +kernel
theorem dX10_forgetOldPort_67 : decode cX10_forgetOldPort 67 = .ok (.putfield 122, 3) := by decide +kernel
theorem dX10_forgetOldPort_70 : decode cX10_forgetOldPort 70 = .ok (.aload_n 0, 1) := by decide +kernel
theorem dX10_forgetOldPort_71 : decode cX10_forgetOldPort 71 = .ok (.getfield 81, 3) := by decide +kernel
theorem dX10_forgetOldPort_74 : decode cX10_forgetOldPort 74 = .ok (.iconst 0, 1) := by decide +kernel
theorem dX10_forgetOldPort_75 : decode cX10_forgetOldPort 75 = .ok (.putfield 125, 3) := by decide +kernel
theorem dX10_forgetOldPort_78 : decode cX10_forgetOldPort 78 = .ok (.aload_n 0, 1) := by decide +kernel
theorem dX10_forgetOldPort_79 : decode cX10_forgetOldPort 79 = .ok (.iconst 0, 1) := by decide +kernel
theorem dX10_forgetOldPort_80 : decode cX10_forgetOldPort 80 = .ok (.putfield 128, 3) := by decide +kernel
theorem dX10_forgetOldPort_83 : decode cX10_forgetOldPort 83 = .ok (.return_, 1) := by decide +kernel
theorem dX10_fault_0 : decode cX10_fault 0 = .ok (.iload_n 1, 1) := by decide +kernel
theorem dX10_fault_1 : decode cX10_fault 1 = .ok (.ifCond .ne 14, 3) := by decide +kernel
theorem dX10_fault_4 : decode cX10_fault 4 = .ok (.aload_n 0, 1) := by decide +kernel
theorem dX10_fault_5 : decode cX10_fault 5 = .ok (.getfield 16, 3) := by decide +kernel
theorem dX10_fault_8 : decode cX10_fault 8 = .ok (.getfield 131, 3) := by decide +kernel
theorem dX10_fault_11 : decode cX10_fault 11 = .ok (.getfield 135, 3) := by decide +kernel
theorem dX10_fault_14 : decode cX10_fault 14 = .ok (.ireturn, 1) := by decide +kernel
theorem dX10_fault_15 : decode cX10_fault 15 = .ok (.iload_n 1, 1) := by decide +kernel
theorem dX10_fault_16 : decode cX10_fault 16 = .ok (.iconst 1, 1) := by decide +kernel
theorem dX10_fault_17 : decode cX10_fault 17 = .ok (.if_icmp .ne 16, 3) := by decide +kernel
theorem dX10_fault_20 : decode cX10_fault 20 = .ok (.aload_n 0, 1) := by decide +kernel
theorem dX10_fault_21 : decode cX10_fault 21 = .ok (.getfield 16, 3) := by decide +kernel
theorem dX10_fault_24 : decode cX10_fault 24 = .ok (.getfield 131, 3) := by decide +kernel
theorem dX10_fault_27 : decode cX10_fault 27 = .ok (.getfield 140, 3) := by decide +kernel
theorem dX10_fault_30 : decode cX10_fault 30 = .ok (.goto 4, 3) := by decide +kernel
theorem dX10_fault_33 : decode cX10_fault 33 = .ok (.iconst (-1), 1) := by decide +kernel
theorem dX10_fault_34 : decode cX10_fault 34 = .ok (.ireturn, 1) := by decide +kernel
set_option maxRecDepth 20000 in
theorem ggX10_worth_X4_hasWord : GoodIn wsX10_worth wsX4_hasWord := goodIn_r _ [8, 9, 32, 33, 34, 35, 36, 37, 38, 39, 40, 41, 42, 43, 44, 45, 46, 47] (by decide +kernel) (by decide +kernel)
set_option maxRecDepth 20000 in
theorem gX10_worth_X4_hasWord : GoodIn wsX10_worth (wsV RX10 143 RX4 yX4_hasWord wsX4_hasWord) := goodIn_app (goodIn_of _ (by decide +kernel)) ggX10_worth_X4_hasWord
theorem dX10_worth_0 : decode cX10_worth 0 = .ok (.aload_n 0, 1) := by decide +kernel
theorem dX10_worth_1 : decode cX10_worth 1 = .ok (.getfield 23, 3) := by decide +kernel
theorem dX10_worth_4 : decode cX10_worth 4 = .ok (.iload_n 1, 1) := by decide +kernel
theorem dX10_worth_5 : decode cX10_worth 5 = .ok (.invokevirtual 143, 3) := by decide +kernel
theorem dX10_worth_8 : decode cX10_worth 8 = .ok (.ifCond .eq 26, 3) := by decide +kernel
theorem dX10_worth_34 : decode cX10_worth 34 = .ok (.ldc 153, 2) := by decide +kernel
theorem dX10_worth_36 : decode cX10_worth 36 = .ok (.ireturn, 1) := by decide +kernel
set_option maxRecDepth 20000 in
theorem ggX10_behind_X4_hasWord : GoodIn wsX10_behind wsX4_hasWord := goodIn_r _ [8, 9, 32, 33, 34, 35, 36, 37, 38, 39, 40, 41, 42, 43, 44, 45, 46, 47] (by decide +kernel) (by decide +kernel)
set_option maxRecDepth 20000 in
theorem gX10_behind_X4_hasWord : GoodIn wsX10_behind (wsV RX10 143 RX4 yX4_hasWord wsX4_hasWord) := goodIn_app (goodIn_of _ (by decide +kernel)) ggX10_behind_X4_hasWord
theorem dX10_behind_0 : decode cX10_behind 0 = .ok (.aload_n 0, 1) := by decide +kernel
theorem dX10_behind_1 : decode cX10_behind 1 = .ok (.getfield 23, 3) := by decide +kernel
theorem dX10_behind_4 : decode cX10_behind 4 = .ok (.iload_n 1, 1) := by decide +kernel
theorem dX10_behind_5 : decode cX10_behind 5 = .ok (.invokevirtual 143, 3) := by decide +kernel
theorem dX10_behind_8 : decode cX10_behind 8 = .ok (.ifCond .eq 21, 3) := by decide +kernel
theorem dX10_behind_29 : decode cX10_behind 29 = .ok (.ldc 153, 2) := by decide +kernel
theorem dX10_behind_31 : decode cX10_behind 31 = .ok (.ireturn, 1) := by decide +kernel
set_option maxRecDepth 20000 in
theorem ggX10_turn_X4_hasPlace : GoodIn wsX10_turn wsX4_hasPlace := goodIn_r _ [6, 7, 39, 40, 41, 42, 43, 44, 45, 46, 47, 48, 49, 50, 51, 52, 53, 54] (by decide +kernel) (by decide +kernel)
set_option maxRecDepth 20000 in
theorem gX10_turn_X4_hasPlace : GoodIn wsX10_turn (wsV RX10 157 RX4 yX4_hasPlace wsX4_hasPlace) := goodIn_app (goodIn_of _ (by decide +kernel)) ggX10_turn_X4_hasPlace
set_option maxRecDepth 20000 in
theorem ggX10_turn_X10_ownerInEarnest : GoodIn wsX10_turn wsX10_ownerInEarnest := goodIn_r _ [12, 13, 14, 1, 15, 16, 17, 5, 18, 19, 20, 21, 22, 23, 24, 25, 26, 27, 28, 29, 30, 31, 32, 33, 34, 35, 36, 37, 38, 55, 56, 57, 58, 59, 60, 61, 62, 63, 39, 40, 41, 42, 43, 44, 45, 46, 47, 48, 49, 50, 51, 52, 53, 54] (by decide +kernel) (by decide +kernel)
set_option maxRecDepth 20000 in
theorem gX10_turn_X10_ownerInEarnest : GoodIn wsX10_turn (wsV RX10 160 RX10 yX10_ownerInEarnest wsX10_ownerInEarnest) := goodIn_app (goodIn_of _ (by decide +kernel)) ggX10_turn_X10_ownerInEarnest
theorem dX10_turn_0 : decode cX10_turn 0 = .ok (.aload_n 0, 1) := by decide +kernel
theorem dX10_turn_1 : decode cX10_turn 1 = .ok (.getfield 23, 3) := by decide +kernel
theorem dX10_turn_4 : decode cX10_turn 4 = .ok (.iload_n 1, 1) := by decide +kernel
theorem dX10_turn_5 : decode cX10_turn 5 = .ok (.invokevirtual 157, 3) := by decide +kernel
theorem dX10_turn_8 : decode cX10_turn 8 = .ok (.ifCond .eq 11, 3) := by decide +kernel
theorem dX10_turn_11 : decode cX10_turn 11 = .ok (.aload_n 0, 1) := by decide +kernel
theorem dX10_turn_12 : decode cX10_turn 12 = .ok (.iload_n 1, 1) := by decide +kernel
theorem dX10_turn_13 : decode cX10_turn 13 = .ok (.invokevirtual 160, 3) := by decide +kernel
theorem dX10_turn_16 : decode cX10_turn 16 = .ok (.goto 4, 3) := by decide +kernel
theorem dX10_turn_19 : decode cX10_turn 19 = .ok (.iconst (-1), 1) := by decide +kernel
theorem dX10_turn_20 : decode cX10_turn 20 = .ok (.ireturn, 1) := by decide +kernel
set_option maxRecDepth 20000 in
theorem ggX10_ownerInEarnest_X4_turnAt : GoodIn wsX10_ownerInEarnest wsX4_turnAt := goodIn_r _ [8, 9, 10, 38, 39, 40, 41, 42, 43, 44, 45, 46, 47, 48, 49, 50, 51, 52, 53] (by decide +kernel) (by decide +kernel)
set_option maxRecDepth 20000 in
theorem gX10_ownerInEarnest_X4_turnAt : GoodIn wsX10_ownerInEarnest (wsV RX10 167 RX4 yX4_turnAt wsX4_turnAt) := goodIn_app (goodIn_of _ (by decide +kernel)) ggX10_ownerInEarnest_X4_turnAt
theorem dX10_ownerInEarnest_0 : decode cX10_ownerInEarnest 0 = .ok (.aload_n 0, 1) := by decide +kernel
theorem dX10_ownerInEarnest_1 : decode cX10_ownerInEarnest 1 = .ok (.getfield 33, 3) := by decide +kernel
theorem dX10_ownerInEarnest_4 : decode cX10_ownerInEarnest 4 = .ok (.getfield 164, 3) := by decide +kernel
theorem dX10_ownerInEarnest_7 : decode cX10_ownerInEarnest 7 = .ok (.iload_n 1, 1) := by decide +kernel
theorem dX10_ownerInEarnest_8 : decode cX10_ownerInEarnest 8 = .ok (.iaload, 1) := by decide +kernel
theorem dX10_ownerInEarnest_9 : decode cX10_ownerInEarnest 9 = .ok (.iconst (-1), 1) := by decide +kernel
theorem dX10_ownerInEarnest_10 : decode cX10_ownerInEarnest 10 = .ok (.if_icmp .eq 15, 3) := by decide +kernel
theorem dX10_ownerInEarnest_25 : decode cX10_ownerInEarnest 25 = .ok (.aload_n 0, 1) := by decide +kernel
theorem dX10_ownerInEarnest_26 : decode cX10_ownerInEarnest 26 = .ok (.getfield 23, 3) := by decide +kernel
theorem dX10_ownerInEarnest_29 : decode cX10_ownerInEarnest 29 = .ok (.iload_n 1, 1) := by decide +kernel
theorem dX10_ownerInEarnest_30 : decode cX10_ownerInEarnest 30 = .ok (.invokevirtual 167, 3) := by decide +kernel
theorem dX10_ownerInEarnest_33 : decode cX10_ownerInEarnest 33 = .ok (.ireturn, 1) := by decide +kernel
theorem dX10_isGuild_0 : decode cX10_isGuild 0 = .ok (.iload_n 0, 1) := by decide +kernel
theorem dX10_isGuild_1 : decode cX10_isGuild 1 = .ok (.ifCond .lt 12, 3) := by decide +kernel
theorem dX10_isGuild_4 : decode cX10_isGuild 4 = .ok (.iload_n 0, 1) := by decide +kernel
theorem dX10_isGuild_5 : decode cX10_isGuild 5 = .ok (.iconst 3, 1) := by decide +kernel
theorem dX10_isGuild_6 : decode cX10_isGuild 6 = .ok (.if_icmp .ge 7, 3) := by decide +kernel
theorem dX10_isGuild_9 : decode cX10_isGuild 9 = .ok (.iconst 1, 1) := by decide +kernel
theorem dX10_isGuild_10 : decode cX10_isGuild 10 = .ok (.goto 4, 3) := by decide +kernel
theorem dX10_isGuild_13 : decode cX10_isGuild 13 = .ok (.iconst 0, 1) := by decide +kernel
theorem dX10_isGuild_14 : decode cX10_isGuild 14 = .ok (.ireturn, 1) := by decide +kernel
set_option maxRecDepth 20000 in
theorem ggX10_write_X4_hasWord : GoodIn wsX10_write wsX4_hasWord := goodIn_r _ [8, 9, 105, 106, 107, 108, 109, 110, 111, 112, 113, 114, 115, 116, 117, 118, 119, 120] (by decide +kernel) (by decide +kernel)
set_option maxRecDepth 20000 in
theorem gX10_write_X4_hasWord : GoodIn wsX10_write (wsV RX10 143 RX4 yX4_hasWord wsX4_hasWord) := goodIn_app (goodIn_of _ (by decide +kernel)) ggX10_write_X4_hasWord
theorem dX10_write_0 : decode cX10_write 0 = .ok (.aload_n 0, 1) := by decide +kernel
theorem dX10_write_1 : decode cX10_write 1 = .ok (.getfield 23, 3) := by decide +kernel
theorem dX10_write_4 : decode cX10_write 4 = .ok (.iload_n 1, 1) := by decide +kernel
theorem dX10_write_5 : decode cX10_write 5 = .ok (.invokevirtual 143, 3) := by decide +kernel
theorem dX10_write_8 : decode cX10_write 8 = .ok (.ifCond .eq 14, 3) := by decide +kernel
theorem dX10_write_22 : decode cX10_write 22 = .ok (.iconst (-1), 1) := by decide +kernel
theorem dX10_write_23 : decode cX10_write 23 = .ok (.ireturn, 1) := by decide +kernel
set_option maxRecDepth 20000 in
theorem ggX10_sell_X10_isUnwritten : GoodIn wsX10_sell wsX10_isUnwritten := goodIn_r _ [6, 7, 1, 8, 9, 10, 11, 12, 13, 14, 55, 56, 57, 58, 59, 60, 61, 62, 63, 64, 65, 66, 67, 68, 69, 70, 71, 72, 73, 74, 75, 76, 77, 78, 79, 80, 81, 82, 83, 84, 85, 86, 87, 88, 89, 90, 91, 92, 93, 94, 95, 96, 97] (by decide +kernel) (by decide +kernel)
set_option maxRecDepth 20000 in
theorem gX10_sell_X10_isUnwritten : GoodIn wsX10_sell (wsV RX10 180 RX10 yX10_isUnwritten wsX10_isUnwritten) := goodIn_app (goodIn_of _ (by decide +kernel)) ggX10_sell_X10_isUnwritten
set_option maxRecDepth 20000 in
theorem ggX10_sell_X10_isGuild : GoodIn wsX10_sell wsX10_isGuild := goodIn_r _ [17] (by decide +kernel) (by decide +kernel)
set_option maxRecDepth 20000 in
theorem gX10_sell_X10_isGuild : GoodIn wsX10_sell (va_wsS RX10 147 yX10_isGuild wsX10_isGuild) := goodIn_app (goodIn_of _ (by decide +kernel)) ggX10_sell_X10_isGuild
set_option maxRecDepth 20000 in
theorem ggX10_sell_X10_ownerInEarnest : GoodIn wsX10_sell wsX10_ownerInEarnest := goodIn_r _ [21, 1, 22, 7, 23, 24, 25, 12, 26, 27, 28, 55, 56, 57, 58, 59, 60, 61, 62, 63, 64, 65, 66, 67, 68, 69, 70, 71, 72, 73, 74, 75, 76, 77, 78, 79, 80, 81, 82, 83, 84, 85, 86, 87, 88, 89, 90, 91, 92, 93, 94, 95, 96, 97] (by decide +kernel) (by decide +kernel)
set_option maxRecDepth 20000 in
theorem gX10_sell_X10_ownerInEarnest : GoodIn wsX10_sell (wsV RX10 160 RX10 yX10_ownerInEarnest wsX10_ownerInEarnest) := goodIn_app (goodIn_of _ (by decide +kernel)) ggX10_sell_X10_ownerInEarnest
set_option maxRecDepth 20000 in
theorem ggX10_sell_X0_putSale : GoodIn wsX10_sell wsX0_putSale := goodIn_r _ [33, 34, 35, 36, 37, 32, 38, 39, 40, 41, 42, 43, 44, 45, 46, 47, 48, 49, 50, 51, 52, 53, 54, 73, 74, 75, 76, 77, 78, 79, 80, 81] (by decide +kernel) (by decide +kernel)
set_option maxRecDepth 20000 in
theorem gX10_sell_X0_putSale : GoodIn wsX10_sell (wsV RX10 183 RX0 yX0_putSale wsX0_putSale) := goodIn_app (goodIn_of _ (by decide +kernel)) ggX10_sell_X0_putSale
theorem dX10_sell_0 : decode cX10_sell 0 = .ok (.aload_n 0, 1) := by decide +kernel
theorem dX10_sell_1 : decode cX10_sell 1 = .ok (.iload_n 1, 1) := by decide +kernel
theorem dX10_sell_2 : decode cX10_sell 2 = .ok (.invokevirtual 180, 3) := by decide +kernel
theorem dX10_sell_5 : decode cX10_sell 5 = .ok (.ifCond .eq 10, 3) := by decide +kernel
theorem dX10_sell_8 : decode cX10_sell 8 = .ok (.iload_n 2, 1) := by decide +kernel
theorem dX10_sell_9 : decode cX10_sell 9 = .ok (.invokestatic 147, 3) := by decide +kernel
theorem dX10_sell_12 : decode cX10_sell 12 = .ok (.ifCond .ne 5, 3) := by decide +kernel
theorem dX10_sell_15 : decode cX10_sell 15 = .ok (.iconst (-1), 1) := by decide +kernel
theorem dX10_sell_16 : decode cX10_sell 16 = .ok (.ireturn, 1) := by decide +kernel
theorem dX10_sell_17 : decode cX10_sell 17 = .ok (.aload_n 0, 1) := by decide +kernel
theorem dX10_sell_18 : decode cX10_sell 18 = .ok (.iload_n 1, 1) := by decide +kernel
theorem dX10_sell_19 : decode cX10_sell 19 = .ok (.invokevirtual 160, 3) := by decide +kernel
theorem dX10_sell_22 : decode cX10_sell 22 = .ok (.istore_n 3, 1) := by decide +kernel
theorem dX10_sell_23 : decode cX10_sell 23 = .ok (.aload_n 0, 1) := by decide +kernel
theorem dX10_sell_24 : decode cX10_sell 24 = .ok (.getfield 33, 3) := by decide +kernel
theorem dX10_sell_27 : decode cX10_sell 27 = .ok (.iload_n 1, 1) := by decide +kernel
theorem dX10_sell_28 : decode cX10_sell 28 = .ok (.iload_n 2, 1) := by decide +kernel
theorem dX10_sell_29 : decode cX10_sell 29 = .ok (.invokevirtual 183, 3) := by decide +kernel
theorem dX10_sell_32 : decode cX10_sell 32 = .ok (.iload_n 3, 1) := by decide +kernel
theorem dX10_sell_33 : decode cX10_sell 33 = .ok (.ireturn, 1) := by decide +kernel
set_option maxRecDepth 20000 in
theorem ggX10_isUnwritten_X4_hasPlace : GoodIn wsX10_isUnwritten wsX4_hasPlace := goodIn_r _ [8, 9, 37, 38, 39, 40, 41, 42, 43, 44, 45, 46, 47, 48, 49, 50, 51, 52] (by decide +kernel) (by decide +kernel)
set_option maxRecDepth 20000 in
theorem gX10_isUnwritten_X4_hasPlace : GoodIn wsX10_isUnwritten (wsV RX10 157 RX4 yX4_hasPlace wsX4_hasPlace) := goodIn_app (goodIn_of _ (by decide +kernel)) ggX10_isUnwritten_X4_hasPlace
theorem dX10_isUnwritten_0 : decode cX10_isUnwritten 0 = .ok (.aload_n 0, 1) := by decide +kernel
theorem dX10_isUnwritten_1 : decode cX10_isUnwritten 1 = .ok (.getfield 23, 3) := by decide +kernel
theorem dX10_isUnwritten_4 : decode cX10_isUnwritten 4 = .ok (.iload_n 1, 1) := by decide +kernel
theorem dX10_isUnwritten_5 : decode cX10_isUnwritten 5 = .ok (.invokevirtual 157, 3) := by decide +kernel
theorem dX10_isUnwritten_8 : decode cX10_isUnwritten 8 = .ok (.ifCond .eq 18, 3) := by decide +kernel
theorem dX10_isUnwritten_11 : decode cX10_isUnwritten 11 = .ok (.iload_n 1, 1) := by decide +kernel
theorem dX10_isUnwritten_12 : decode cX10_isUnwritten 12 = .ok (.aload_n 0, 1) := by decide +kernel
theorem dX10_isUnwritten_13 : decode cX10_isUnwritten 13 = .ok (.getfield 33, 3) := by decide +kernel
theorem dX10_isUnwritten_16 : decode cX10_isUnwritten 16 = .ok (.getfield 177, 3) := by decide +kernel
theorem dX10_isUnwritten_19 : decode cX10_isUnwritten 19 = .ok (.if_icmp .lt 7, 3) := by decide +kernel
theorem dX10_isUnwritten_22 : decode cX10_isUnwritten 22 = .ok (.iconst 1, 1) := by decide +kernel
theorem dX10_isUnwritten_23 : decode cX10_isUnwritten 23 = .ok (.goto 4, 3) := by decide +kernel
theorem dX10_isUnwritten_26 : decode cX10_isUnwritten 26 = .ok (.iconst 0, 1) := by decide +kernel
theorem dX10_isUnwritten_27 : decode cX10_isUnwritten 27 = .ok (.ireturn, 1) := by decide +kernel
set_option maxRecDepth 20000 in
theorem ggX10_undo_X0_takeBack : GoodIn wsX10_undo wsX0_takeBack := goodIn_r _ [6, 7, 8, 9, 10, 11, 12, 31, 32, 33, 34, 35, 36, 37, 38, 39] (by decide +kernel) (by decide +kernel)
set_option maxRecDepth 20000 in
theorem gX10_undo_X0_takeBack : GoodIn wsX10_undo (wsV RX10 187 RX0 yX0_takeBack wsX0_takeBack) := goodIn_app (goodIn_of _ (by decide +kernel)) ggX10_undo_X0_takeBack
theorem dX10_undo_0 : decode cX10_undo 0 = .ok (.aload_n 0, 1) := by decide +kernel
theorem dX10_undo_1 : decode cX10_undo 1 = .ok (.getfield 33, 3) := by decide +kernel
theorem dX10_undo_4 : decode cX10_undo 4 = .ok (.invokevirtual 187, 3) := by decide +kernel
theorem dX10_undo_7 : decode cX10_undo 7 = .ok (.ireturn, 1) := by decide +kernel
set_option maxRecDepth 20000 in
theorem ggX10_redo_X0_doAgain : GoodIn wsX10_redo wsX0_doAgain := goodIn_r _ [6, 7, 8, 9, 10, 11, 12, 13, 14, 33, 34, 35, 36, 37, 38, 39, 40, 41] (by decide +kernel) (by decide +kernel)
set_option maxRecDepth 20000 in
theorem gX10_redo_X0_doAgain : GoodIn wsX10_redo (wsV RX10 191 RX0 yX0_doAgain wsX0_doAgain) := goodIn_app (goodIn_of _ (by decide +kernel)) ggX10_redo_X0_doAgain
theorem dX10_redo_0 : decode cX10_redo 0 = .ok (.aload_n 0, 1) := by decide +kernel
theorem dX10_redo_1 : decode cX10_redo 1 = .ok (.getfield 33, 3) := by decide +kernel
theorem dX10_redo_4 : decode cX10_redo 4 = .ok (.invokevirtual 191, 3) := by decide +kernel
theorem dX10_redo_7 : decode cX10_redo 7 = .ok (.ireturn, 1) := by decide +kernel
set_option maxRecDepth 20000 in
theorem ggX10_wipe_X0_empty : GoodIn wsX10_wipe wsX0_empty := goodIn_r _ [7, 8, 9, 10, 11, 12, 13, 14, 15, 16, 6, 17, 18, 19, 38, 39, 40, 41, 42, 43, 44, 45, 46] (by decide +kernel) (by decide +kernel)
set_option maxRecDepth 20000 in
theorem gX10_wipe_X0_empty : GoodIn wsX10_wipe (wsV RX10 110 RX0 yX0_empty wsX0_empty) := goodIn_app (goodIn_of _ (by decide +kernel)) ggX10_wipe_X0_empty
theorem dX10_wipe_0 : decode cX10_wipe 0 = .ok (.aload_n 0, 1) := by decide +kernel
theorem dX10_wipe_1 : decode cX10_wipe 1 = .ok (.getfield 33, 3) := by decide +kernel
theorem dX10_wipe_4 : decode cX10_wipe 4 = .ok (.getfield 177, 3) := by decide +kernel
theorem dX10_wipe_7 : decode cX10_wipe 7 = .ok (.istore_n 1, 1) := by decide +kernel
theorem dX10_wipe_8 : decode cX10_wipe 8 = .ok (.aload_n 0, 1) := by decide +kernel
theorem dX10_wipe_9 : decode cX10_wipe 9 = .ok (.getfield 33, 3) := by decide +kernel
theorem dX10_wipe_12 : decode cX10_wipe 12 = .ok (.invokevirtual 110, 3) := by decide +kernel
theorem dX10_wipe_15 : decode cX10_wipe 15 = .ok (.iload_n 1, 1) := by decide +kernel
theorem dX10_wipe_16 : decode cX10_wipe 16 = .ok (.ireturn, 1) := by decide +kernel
theorem dX10_word_0 : decode cX10_word 0 = .ok (.iload_n 1, 1) := by decide +kernel
theorem dX10_word_1 : decode cX10_word 1 = .ok (.ifCond .lt 26, 3) := by decide +kernel
theorem dX10_word_4 : decode cX10_word 4 = .ok (.iload_n 1, 1) := by decide +kernel
theorem dX10_word_5 : decode cX10_word 5 = .ok (.aload_n 0, 1) := by decide +kernel
theorem dX10_word_6 : decode cX10_word 6 = .ok (.getfield 33, 3) := by decide +kernel
theorem dX10_word_9 : decode cX10_word 9 = .ok (.getfield 177, 3) := by decide +kernel
theorem dX10_word_12 : decode cX10_word 12 = .ok (.if_icmp .ge 15, 3) := by decide +kernel
theorem dX10_word_27 : decode cX10_word 27 = .ok (.iconst (-1), 1) := by decide +kernel
theorem dX10_word_28 : decode cX10_word 28 = .ok (.ireturn, 1) := by decide +kernel
set_option maxRecDepth 20000 in
theorem ggX10_next_X10_nextInEarnest : GoodIn wsX10_next wsX10_nextInEarnest := goodIn_r _ [5, 6, 7, 8, 9, 10, 11, 12, 13, 14, 15, 16, 17, 18, 19, 20, 21, 22, 23, 24, 25, 26, 27, 28, 29, 30, 31, 32, 33, 34, 35, 36, 37, 38, 39, 40, 41, 42, 43, 44, 45, 46, 47, 48, 49, 50, 51, 52, 53, 54, 55, 56, 57, 58, 59, 60, 61, 62, 63, 64, 65, 66, 67, 68, 69, 70, 71, 72, 73, 74, 75, 76, 77, 78, 79, 80, 81, 82, 83, 84, 85, 86, 87, 88, 89, 90] (by decide +kernel) (by decide +kernel)
set_option maxRecDepth 20000 in
theorem gX10_next_X10_nextInEarnest : GoodIn wsX10_next (wsV RX10 170 RX10 yX10_nextInEarnest wsX10_nextInEarnest) := goodIn_app (goodIn_of _ (by decide +kernel)) ggX10_next_X10_nextInEarnest
theorem dX10_next_0 : decode cX10_next 0 = .ok (.aload_n 0, 1) := by decide +kernel
theorem dX10_next_1 : decode cX10_next 1 = .ok (.invokevirtual 170, 3) := by decide +kernel
theorem dX10_next_4 : decode cX10_next 4 = .ok (.ireturn, 1) := by decide +kernel
set_option maxRecDepth 20000 in
theorem ggX10_nextInEarnest_X5_readBeginning : GoodIn wsX10_nextInEarnest wsX5_readBeginning := goodIn_r _ [10, 11, 12, 13, 9, 14, 15, 16, 17, 18, 19, 20, 21, 22, 23, 24, 25, 26, 27, 28, 29, 68, 69, 70, 71, 72, 73, 74, 75, 76, 77, 78, 79, 80, 81, 82, 83, 84, 85] (by decide +kernel) (by decide +kernel)
set_option maxRecDepth 20000 in
theorem gX10_nextInEarnest_X5_readBeginning : GoodIn wsX10_nextInEarnest (wsV RX10 197 RX5 yX5_readBeginning wsX5_readBeginning) := goodIn_app (goodIn_of _ (by decide +kernel)) ggX10_nextInEarnest_X5_readBeginning
set_option maxRecDepth 20000 in
theorem ggX10_nextInEarnest_X5_nextWords : GoodIn wsX10_nextInEarnest wsX5_nextWords := goodIn_r _ [33, 34, 15, 35, 16, 36, 37, 38, 39, 40, 22, 11, 12, 13, 9, 14, 17, 18, 19, 20, 21, 23, 24, 25, 26, 27, 28, 29, 68, 69, 70, 71, 72, 73, 74, 75, 76, 77, 78, 79, 80, 81, 82, 83, 84, 85] (by decide +kernel) (by decide +kernel)
set_option maxRecDepth 20000 in
theorem gX10_nextInEarnest_X5_nextWords : GoodIn wsX10_nextInEarnest (wsV RX10 201 RX5 yX5_nextWords wsX5_nextWords) := goodIn_app (goodIn_of _ (by decide +kernel)) ggX10_nextInEarnest_X5_nextWords
theorem dX10_nextInEarnest_0 : decode cX10_nextInEarnest 0 = .ok (.aload_n 0, 1) := by decide +kernel
theorem dX10_nextInEarnest_1 : decode cX10_nextInEarnest 1 = .ok (.getfield 47, 3) := by decide +kernel
theorem dX10_nextInEarnest_4 : decode cX10_nextInEarnest 4 = .ok (.aload_n 0, 1) := by decide +kernel
theorem dX10_nextInEarnest_5 : decode cX10_nextInEarnest 5 = .ok (.getfield 23, 3) := by decide +kernel
theorem dX10_nextInEarnest_8 : decode cX10_nextInEarnest 8 = .ok (.aload_n 0, 1) := by decide +kernel
theorem dX10_nextInEarnest_9 : decode cX10_nextInEarnest 9 = .ok (.getfield 33, 3) := by decide +kernel
theorem dX10_nextInEarnest_12 : decode cX10_nextInEarnest 12 = .ok (.getfield 194, 3) := by decide +kernel
theorem dX10_nextInEarnest_15 : decode cX10_nextInEarnest 15 = .ok (.aload_n 0, 1) := by decide +kernel
theorem dX10_nextInEarnest_16 : decode cX10_nextInEarnest 16 = .ok (.getfield 33, 3) := by decide +kernel
theorem dX10_nextInEarnest_19 : decode cX10_nextInEarnest 19 = .ok (.getfield 177, 3) := by decide +kernel
theorem dX10_nextInEarnest_22 : decode cX10_nextInEarnest 22 = .ok (.invokevirtual 197, 3) := by decide +kernel
theorem dX10_nextInEarnest_25 : decode cX10_nextInEarnest 25 = .ok (.aload_n 0, 1) := by decide +kernel
theorem dX10_nextInEarnest_26 : decode cX10_nextInEarnest 26 = .ok (.getfield 47, 3) := by decide +kernel
theorem dX10_nextInEarnest_29 : decode cX10_nextInEarnest 29 = .ok (.aload_n 0, 1) := by decide +kernel
theorem dX10_nextInEarnest_30 : decode cX10_nextInEarnest 30 = .ok (.getfield 23, 3) := by decide +kernel
theorem dX10_nextInEarnest_33 : decode cX10_nextInEarnest 33 = .ok (.aload_n 0, 1) := by decide +kernel
theorem dX10_nextInEarnest_34 : decode cX10_nextInEarnest 34 = .ok (.getfield 33, 3) := by decide +kernel
theorem dX10_nextInEarnest_37 : decode cX10_nextInEarnest 37 = .ok (.getfield 177, 3) := by decide +kernel
theorem dX10_nextInEarnest_40 : decode cX10_nextInEarnest 40 = .ok (.invokevirtual 201, 3) := by decide +kernel
theorem dX10_nextInEarnest_43 : decode cX10_nextInEarnest 43 = .ok (.ireturn, 1) := by decide +kernel
set_option maxRecDepth 20000 in
theorem ggX10_readings_X7_countOf : GoodIn wsX10_readings wsX7_countOf := goodIn_r _ [10, 11, 12, 13, 14, 15, 16, 17, 9, 18, 19, 20, 21, 22, 23, 24, 25, 26, 27, 28, 29, 30, 58, 59, 60, 61, 62, 63, 64, 65, 66, 67, 68, 69, 70, 71, 72, 73, 74, 75, 76] (by decide +kernel) (by decide +kernel)
set_option maxRecDepth 20000 in
theorem gX10_readings_X7_countOf : GoodIn wsX10_readings (wsV RX10 205 RX7 yX7_countOf wsX7_countOf) := goodIn_app (goodIn_of _ (by decide +kernel)) ggX10_readings_X7_countOf
theorem dX10_readings_0 : decode cX10_readings 0 = .ok (.aload_n 0, 1) := by decide +kernel
theorem dX10_readings_1 : decode cX10_readings 1 = .ok (.getfield 54, 3) := by decide +kernel
theorem dX10_readings_4 : decode cX10_readings 4 = .ok (.aload_n 0, 1) := by decide +kernel
theorem dX10_readings_5 : decode cX10_readings 5 = .ok (.getfield 23, 3) := by decide +kernel
theorem dX10_readings_8 : decode cX10_readings 8 = .ok (.aload_n 0, 1) := by decide +kernel
theorem dX10_readings_9 : decode cX10_readings 9 = .ok (.getfield 33, 3) := by decide +kernel
theorem dX10_readings_12 : decode cX10_readings 12 = .ok (.getfield 194, 3) := by decide +kernel
theorem dX10_readings_15 : decode cX10_readings 15 = .ok (.aload_n 0, 1) := by decide +kernel
theorem dX10_readings_16 : decode cX10_readings 16 = .ok (.getfield 33, 3) := by decide +kernel
theorem dX10_readings_19 : decode cX10_readings 19 = .ok (.getfield 177, 3) := by decide +kernel
theorem dX10_readings_22 : decode cX10_readings 22 = .ok (.invokevirtual 205, 3) := by decide +kernel
theorem dX10_readings_25 : decode cX10_readings 25 = .ok (.ireturn, 1) := by decide +kernel
set_option maxRecDepth 20000 in
theorem ggX10_means_X10_isGuild : GoodIn wsX10_means wsX10_isGuild := goodIn_r _ [9] (by decide +kernel) (by decide +kernel)
set_option maxRecDepth 20000 in
theorem gX10_means_X10_isGuild : GoodIn wsX10_means (va_wsS RX10 147 yX10_isGuild wsX10_isGuild) := goodIn_app (goodIn_of _ (by decide +kernel)) ggX10_means_X10_isGuild
set_option maxRecDepth 20000 in
theorem ggX10_means_X4_meaningOf : GoodIn wsX10_means wsX4_meaningOf := goodIn_r _ [14, 15, 16, 17, 13, 18, 19, 20, 48, 49, 50, 51, 52, 53, 54, 55, 56, 57, 58, 59, 60, 61, 62, 63] (by decide +kernel) (by decide +kernel)
set_option maxRecDepth 20000 in
theorem gX10_means_X4_meaningOf : GoodIn wsX10_means (wsV RX10 209 RX4 yX4_meaningOf wsX4_meaningOf) := goodIn_app (goodIn_of _ (by decide +kernel)) ggX10_means_X4_meaningOf
theorem dX10_means_0 : decode cX10_means 0 = .ok (.iload_n 1, 1) := by decide +kernel
theorem dX10_means_1 : decode cX10_means 1 = .ok (.invokestatic 147, 3) := by decide +kernel
theorem dX10_means_4 : decode cX10_means 4 = .ok (.ifCond .eq 28, 3) := by decide +kernel
theorem dX10_means_7 : decode cX10_means 7 = .ok (.aload_n 0, 1) := by decide +kernel
theorem dX10_means_8 : decode cX10_means 8 = .ok (.getfield 23, 3) := by decide +kernel
theorem dX10_means_11 : decode cX10_means 11 = .ok (.aload_n 0, 1) := by decide +kernel
theorem dX10_means_12 : decode cX10_means 12 = .ok (.getfield 33, 3) := by decide +kernel
theorem dX10_means_15 : decode cX10_means 15 = .ok (.getfield 194, 3) := by decide +kernel
theorem dX10_means_18 : decode cX10_means 18 = .ok (.aload_n 0, 1) := by decide +kernel
theorem dX10_means_19 : decode cX10_means 19 = .ok (.getfield 33, 3) := by decide +kernel
theorem dX10_means_22 : decode cX10_means 22 = .ok (.getfield 177, 3) := by decide +kernel
theorem dX10_means_25 : decode cX10_means 25 = .ok (.iload_n 1, 1) := by decide +kernel
theorem dX10_means_26 : decode cX10_means 26 = .ok (.invokevirtual 209, 3) := by decide +kernel
theorem dX10_means_29 : decode cX10_means 29 = .ok (.goto 5, 3) := by decide +kernel
theorem dX10_means_32 : decode cX10_means 32 = .ok (.ldc 153, 2) := by decide +kernel
theorem dX10_means_34 : decode cX10_means 34 = .ok (.ireturn, 1) := by decide +kernel
set_option maxRecDepth 20000 in
theorem ggX10_written_X10_growEarnest : GoodIn wsX10_written wsX10_growEarnest := goodIn_r _ [9, 10, 11, 12, 13, 14, 15, 16, 17, 18, 19, 20, 21, 22, 23, 24, 25, 26, 27, 28, 29, 30, 31, 32, 33, 34, 35, 36, 37, 38, 39, 40, 41, 42, 43, 44, 45, 46, 47, 48, 49, 50, 51, 52, 53, 54, 55, 56, 57, 58, 59, 60, 61, 62, 63, 64, 65, 66, 67, 68, 69, 70, 71, 72, 73, 74, 75, 76, 77, 78, 79, 80, 81, 82, 83, 84, 85, 86, 87, 88, 89, 90, 91, 92, 93, 94, 95, 96, 97, 98, 99, 100, 101, 176, 177, 178, 179, 180, 181, 182, 183, 184, 185, 186, 187, 188, 189, 190, 191, 192, 193, 205, 206, 207, 208, 209, 210, 211, 212, 213, 194, 195, 196, 197, 198, 199, 200, 201, 202, 203, 204, 214, 215, 216, 217, 218, 219, 220, 221, 222, 223, 224, 225, 226, 227, 228, 229, 230, 231] (by decide +kernel) (by decide +kernel)
set_option maxRecDepth 20000 in
theorem gX10_written_X10_growEarnest : GoodIn wsX10_written (wsV RX10 213 RX10 yX10_growEarnest wsX10_growEarnest) := goodIn_app (goodIn_of _ (by decide +kernel)) ggX10_written_X10_growEarnest
set_option maxRecDepth 20000 in
theorem ggX10_written_X10_isGuild : GoodIn wsX10_written wsX10_isGuild := goodIn_r _ [104] (by decide +kernel) (by decide +kernel)
set_option maxRecDepth 20000 in
theorem gX10_written_X10_isGuild : GoodIn wsX10_written (va_wsS RX10 147 yX10_isGuild wsX10_isGuild) := goodIn_app (goodIn_of _ (by decide +kernel)) ggX10_written_X10_isGuild
set_option maxRecDepth 20000 in
theorem ggX10_written_X9_hasCharters : GoodIn wsX10_written wsX9_hasCharters := goodIn_r _ [108, 28, 29, 194, 195, 196, 197, 198, 199, 200, 201, 202, 203, 204] (by decide +kernel) (by decide +kernel)
set_option maxRecDepth 20000 in
theorem gX10_written_X9_hasCharters : GoodIn wsX10_written (wsV RX10 217 RX9 yX9_hasCharters wsX9_hasCharters) := goodIn_app (goodIn_of _ (by decide +kernel)) ggX10_written_X9_hasCharters
theorem dX10_written_0 : decode cX10_written 0 = .ok (.aload_n 0, 1) := by decide +kernel
theorem dX10_written_1 : decode cX10_written 1 = .ok (.iconst 0, 1) := by decide +kernel
theorem dX10_written_2 : decode cX10_written 2 = .ok (.putfield 128, 3) := by decide +kernel
theorem dX10_written_5 : decode cX10_written 5 = .ok (.aload_n 0, 1) := by decide +kernel
theorem dX10_written_6 : decode cX10_written 6 = .ok (.invokevirtual 213, 3) := by decide +kernel
theorem dX10_written_9 : decode cX10_written 9 = .ok (.astore_n 2, 1) := by decide +kernel
theorem dX10_written_10 : decode cX10_written 10 = .ok (.iload_n 1, 1) := by decide +kernel
theorem dX10_written_11 : decode cX10_written 11 = .ok (.invokestatic 147, 3) := by decide +kernel
theorem dX10_written_14 : decode cX10_written 14 = .ok (.ifCond .eq 10, 3) := by decide +kernel
theorem dX10_written_17 : decode cX10_written 17 = .ok (.aload_n 2, 1) := by decide +kernel
theorem dX10_written_18 : decode cX10_written 18 = .ok (.invokevirtual 217, 3) := by decide +kernel
theorem dX10_written_21 : decode cX10_written 21 = .ok (.ifCond .ne 6, 3) := by decide +kernel
theorem dX10_written_24 : decode cX10_written 24 = .ok (.ldc 153, 2) := by decide +kernel
theorem dX10_written_26 : decode cX10_written 26 = .ok (.ireturn, 1) := by decide +kernel
set_option maxRecDepth 20000 in
theorem ggX10_growEarnest_X9_growFrom : GoodIn wsX10_growEarnest wsX9_growFrom := goodIn_r _ [12, 13, 14, 15, 16, 17, 18, 19, 20, 21, 22, 23, 11, 24, 25, 26, 27, 28, 29, 30, 31, 32, 33, 34, 35, 36, 37, 38, 39, 40, 41, 42, 43, 44, 45, 46, 47, 48, 49, 50, 51, 52, 53, 54, 55, 56, 57, 58, 59, 60, 61, 62, 63, 64, 65, 66, 67, 68, 69, 70, 71, 72, 73, 74, 75, 76, 77, 78, 79, 80, 81, 82, 83, 84, 85, 86, 87, 88, 89, 90, 91, 92, 120, 121, 122, 123, 124, 125, 126, 127, 128, 129, 130, 131, 132, 133, 134, 135, 136, 137, 138, 139, 140, 141, 142, 143, 144, 145, 146, 147, 148] (by decide +kernel) (by decide +kernel)
set_option maxRecDepth 20000 in
theorem gX10_growEarnest_X9_growFrom : GoodIn wsX10_growEarnest (wsV RX10 234 RX9 yX9_growFrom wsX9_growFrom) := goodIn_app (goodIn_of _ (by decide +kernel)) ggX10_growEarnest_X9_growFrom
theorem dX10_growEarnest_0 : decode cX10_growEarnest 0 = .ok (.aload_n 0, 1) := by decide +kernel
theorem dX10_growEarnest_1 : decode cX10_growEarnest 1 = .ok (.getfield 33, 3) := by decide +kernel
theorem dX10_growEarnest_4 : decode cX10_growEarnest 4 = .ok (.getfield 177, 3) := by decide +kernel
theorem dX10_growEarnest_7 : decode cX10_growEarnest 7 = .ok (.ifCond .ne 10, 3) := by decide +kernel
theorem dX10_growEarnest_10 : decode cX10_growEarnest 10 = .ok (.aload_n 0, 1) := by decide +kernel
theorem dX10_growEarnest_11 : decode cX10_growEarnest 11 = .ok (.getfield 68, 3) := by decide +kernel
theorem dX10_growEarnest_14 : decode cX10_growEarnest 14 = .ok (.goto 7, 3) := by decide +kernel
theorem dX10_growEarnest_21 : decode cX10_growEarnest 21 = .ok (.astore_n 1, 1) := by decide +kernel
theorem dX10_growEarnest_22 : decode cX10_growEarnest 22 = .ok (.aload_n 1, 1) := by decide +kernel
theorem dX10_growEarnest_23 : decode cX10_growEarnest 23 = .ok (.aload_n 0, 1) := by decide +kernel
theorem dX10_growEarnest_24 : decode cX10_growEarnest 24 = .ok (.getfield 23, 3) := by decide +kernel
theorem dX10_growEarnest_27 : decode cX10_growEarnest 27 = .ok (.aload_n 0, 1) := by decide +kernel
theorem dX10_growEarnest_28 : decode cX10_growEarnest 28 = .ok (.getfield 47, 3) := by decide +kernel
theorem dX10_growEarnest_31 : decode cX10_growEarnest 31 = .ok (.aload_n 0, 1) := by decide +kernel
theorem dX10_growEarnest_32 : decode cX10_growEarnest 32 = .ok (.getfield 33, 3) := by decide +kernel
theorem dX10_growEarnest_35 : decode cX10_growEarnest 35 = .ok (.getfield 194, 3) := by decide +kernel
theorem dX10_growEarnest_38 : decode cX10_growEarnest 38 = .ok (.aload_n 0, 1) := by decide +kernel
theorem dX10_growEarnest_39 : decode cX10_growEarnest 39 = .ok (.getfield 33, 3) := by decide +kernel
theorem dX10_growEarnest_42 : decode cX10_growEarnest 42 = .ok (.getfield 177, 3) := by decide +kernel
theorem dX10_growEarnest_45 : decode cX10_growEarnest 45 = .ok (.iconst 0, 1) := by decide +kernel
theorem dX10_growEarnest_46 : decode cX10_growEarnest 46 = .ok (.invokevirtual 234, 3) := by decide +kernel
theorem dX10_growEarnest_49 : decode cX10_growEarnest 49 = .ok (.aload_n 1, 1) := by decide +kernel
theorem dX10_growEarnest_50 : decode cX10_growEarnest 50 = .ok (.areturn, 1) := by decide +kernel
set_option maxRecDepth 20000 in
theorem ggX10_growWhole_X9_growFrom : GoodIn wsX10_growWhole wsX9_growFrom := goodIn_r _ [10, 11, 12, 13, 14, 15, 16, 17, 18, 19, 20, 21, 9, 22, 23, 24, 25, 26, 27, 28, 29, 30, 31, 32, 33, 34, 35, 36, 37, 38, 39, 40, 41, 42, 43, 44, 45, 46, 47, 48, 49, 50, 51, 52, 53, 54, 55, 56, 57, 58, 59, 60, 61, 62, 63, 64, 65, 66, 67, 68, 69, 70, 71, 72, 73, 74, 75, 76, 77, 78, 79, 80, 81, 82, 83, 84, 85, 86, 87, 88, 89, 90, 118, 119, 120, 121, 122, 123, 124, 125, 126, 127, 128, 129, 130, 131, 132, 133, 134, 135, 136, 137, 138, 139, 140, 141, 142, 143, 144, 145, 146] (by decide +kernel) (by decide +kernel)
set_option maxRecDepth 20000 in
theorem gX10_growWhole_X9_growFrom : GoodIn wsX10_growWhole (wsV RX10 234 RX9 yX9_growFrom wsX9_growFrom) := goodIn_app (goodIn_of _ (by decide +kernel)) ggX10_growWhole_X9_growFrom
theorem dX10_growWhole_0 : decode cX10_growWhole 0 = .ok (.aload_n 0, 1) := by decide +kernel
theorem dX10_growWhole_1 : decode cX10_growWhole 1 = .ok (.getfield 68, 3) := by decide +kernel
theorem dX10_growWhole_4 : decode cX10_growWhole 4 = .ok (.aload_n 0, 1) := by decide +kernel
theorem dX10_growWhole_5 : decode cX10_growWhole 5 = .ok (.getfield 23, 3) := by decide +kernel
theorem dX10_growWhole_8 : decode cX10_growWhole 8 = .ok (.aload_n 0, 1) := by decide +kernel
theorem dX10_growWhole_9 : decode cX10_growWhole 9 = .ok (.getfield 47, 3) := by decide +kernel
theorem dX10_growWhole_12 : decode cX10_growWhole 12 = .ok (.aload_n 0, 1) := by decide +kernel
theorem dX10_growWhole_13 : decode cX10_growWhole 13 = .ok (.getfield 33, 3) := by decide +kernel
theorem dX10_growWhole_16 : decode cX10_growWhole 16 = .ok (.getfield 194, 3) := by decide +kernel
theorem dX10_growWhole_19 : decode cX10_growWhole 19 = .ok (.iconst 0, 1) := by decide +kernel
theorem dX10_growWhole_20 : decode cX10_growWhole 20 = .ok (.iconst 0, 1) := by decide +kernel
theorem dX10_growWhole_21 : decode cX10_growWhole 21 = .ok (.invokevirtual 234, 3) := by decide +kernel
theorem dX10_growWhole_24 : decode cX10_growWhole 24 = .ok (.aload_n 0, 1) := by decide +kernel
theorem dX10_growWhole_25 : decode cX10_growWhole 25 = .ok (.getfield 68, 3) := by decide +kernel
theorem dX10_growWhole_28 : decode cX10_growWhole 28 = .ok (.areturn, 1) := by decide +kernel
set_option maxRecDepth 20000 in
theorem ggX10_growHoles_X9_growFrom : GoodIn wsX10_growHoles wsX9_growFrom := goodIn_r _ [12, 13, 14, 15, 16, 17, 18, 19, 20, 21, 22, 23, 11, 24, 25, 26, 27, 28, 29, 30, 31, 32, 33, 34, 35, 36, 37, 38, 39, 40, 41, 42, 43, 44, 45, 46, 47, 48, 49, 50, 51, 52, 53, 54, 55, 56, 57, 58, 59, 60, 61, 62, 63, 64, 65, 66, 67, 68, 69, 70, 71, 72, 73, 74, 75, 76, 77, 78, 79, 80, 81, 82, 83, 84, 85, 86, 87, 88, 89, 90, 91, 92, 120, 121, 122, 123, 124, 125, 126, 127, 128, 129, 130, 131, 132, 133, 134, 135, 136, 137, 138, 139, 140, 141, 142, 143, 144, 145, 146, 147, 148] (by decide +kernel) (by decide +kernel)
set_option maxRecDepth 20000 in
theorem gX10_growHoles_X9_growFrom : GoodIn wsX10_growHoles (wsV RX10 234 RX9 yX9_growFrom wsX9_growFrom) := goodIn_app (goodIn_of _ (by decide +kernel)) ggX10_growHoles_X9_growFrom
theorem dX10_growHoles_0 : decode cX10_growHoles 0 = .ok (.aload_n 0, 1) := by decide +kernel
theorem dX10_growHoles_1 : decode cX10_growHoles 1 = .ok (.getfield 122, 3) := by decide +kernel
theorem dX10_growHoles_4 : decode cX10_growHoles 4 = .ok (.ifCond .ne 10, 3) := by decide +kernel
theorem dX10_growHoles_7 : decode cX10_growHoles 7 = .ok (.aload_n 0, 1) := by decide +kernel
theorem dX10_growHoles_8 : decode cX10_growHoles 8 = .ok (.getfield 68, 3) := by decide +kernel
theorem dX10_growHoles_11 : decode cX10_growHoles 11 = .ok (.goto 7, 3) := by decide +kernel
theorem dX10_growHoles_18 : decode cX10_growHoles 18 = .ok (.astore_n 1, 1) := by decide +kernel
theorem dX10_growHoles_19 : decode cX10_growHoles 19 = .ok (.aload_n 1, 1) := by decide +kernel
theorem dX10_growHoles_20 : decode cX10_growHoles 20 = .ok (.aload_n 0, 1) := by decide +kernel
theorem dX10_growHoles_21 : decode cX10_growHoles 21 = .ok (.getfield 23, 3) := by decide +kernel
theorem dX10_growHoles_24 : decode cX10_growHoles 24 = .ok (.aload_n 0, 1) := by decide +kernel
theorem dX10_growHoles_25 : decode cX10_growHoles 25 = .ok (.getfield 47, 3) := by decide +kernel
theorem dX10_growHoles_28 : decode cX10_growHoles 28 = .ok (.aload_n 0, 1) := by decide +kernel
theorem dX10_growHoles_29 : decode cX10_growHoles 29 = .ok (.getfield 33, 3) := by decide +kernel
theorem dX10_growHoles_32 : decode cX10_growHoles 32 = .ok (.getfield 194, 3) := by decide +kernel
theorem dX10_growHoles_35 : decode cX10_growHoles 35 = .ok (.iconst 0, 1) := by decide +kernel
theorem dX10_growHoles_36 : decode cX10_growHoles 36 = .ok (.aload_n 0, 1) := by decide +kernel
theorem dX10_growHoles_37 : decode cX10_growHoles 37 = .ok (.getfield 122, 3) := by decide +kernel
theorem dX10_growHoles_40 : decode cX10_growHoles 40 = .ok (.invokevirtual 234, 3) := by decide +kernel
theorem dX10_growHoles_43 : decode cX10_growHoles 43 = .ok (.aload_n 1, 1) := by decide +kernel
theorem dX10_growHoles_44 : decode cX10_growHoles 44 = .ok (.areturn, 1) := by decide +kernel
set_option maxRecDepth 20000 in
theorem ggX10_held_X10_growEarnest : GoodIn wsX10_held wsX10_growEarnest := goodIn_r _ [7, 8, 9, 10, 11, 12, 13, 14, 15, 16, 17, 18, 19, 20, 21, 22, 23, 24, 25, 26, 27, 28, 29, 30, 31, 32, 33, 34, 35, 36, 37, 38, 39, 40, 41, 42, 43, 44, 45, 46, 47, 48, 49, 50, 51, 52, 53, 54, 55, 56, 57, 58, 59, 60, 61, 62, 63, 64, 65, 66, 67, 68, 69, 70, 71, 72, 73, 74, 75, 76, 77, 78, 79, 80, 81, 82, 83, 84, 85, 86, 87, 88, 89, 90, 91, 92, 93, 94, 95, 96, 97, 98, 99, 154, 155, 156, 157, 158, 159, 160, 161, 162, 163, 164, 165, 166, 167, 168, 169, 170, 171, 172, 173, 174, 175, 176, 177, 178, 179, 180, 181, 182, 183, 184, 185, 186, 187, 188, 189, 190, 191, 192, 193, 194, 195, 196, 197, 198, 199, 200, 201, 202, 203, 204, 205, 206, 207, 208, 209] (by decide +kernel) (by decide +kernel)
set_option maxRecDepth 20000 in
theorem gX10_held_X10_growEarnest : GoodIn wsX10_held (wsV RX10 213 RX10 yX10_growEarnest wsX10_growEarnest) := goodIn_app (goodIn_of _ (by decide +kernel)) ggX10_held_X10_growEarnest
set_option maxRecDepth 20000 in
theorem ggX10_held_X9_hasCharters : GoodIn wsX10_held wsX9_hasCharters := goodIn_r _ [103, 26, 27, 181, 182, 183, 184, 185, 186, 187, 188, 189, 190, 191] (by decide +kernel) (by decide +kernel)
set_option maxRecDepth 20000 in
theorem gX10_held_X9_hasCharters : GoodIn wsX10_held (wsV RX10 217 RX9 yX9_hasCharters wsX9_hasCharters) := goodIn_app (goodIn_of _ (by decide +kernel)) ggX10_held_X9_hasCharters
theorem dX10_held_0 : decode cX10_held 0 = .ok (.aload_n 0, 1) := by decide +kernel
theorem dX10_held_1 : decode cX10_held 1 = .ok (.invokevirtual 213, 3) := by decide +kernel
theorem dX10_held_4 : decode cX10_held 4 = .ok (.astore_n 2, 1) := by decide +kernel
theorem dX10_held_5 : decode cX10_held 5 = .ok (.iload_n 1, 1) := by decide +kernel
theorem dX10_held_6 : decode cX10_held 6 = .ok (.iconst 1, 1) := by decide +kernel
theorem dX10_held_7 : decode cX10_held 7 = .ok (.if_icmp .lt 16, 3) := by decide +kernel
theorem dX10_held_10 : decode cX10_held 10 = .ok (.iload_n 1, 1) := by decide +kernel
theorem dX10_held_11 : decode cX10_held 11 = .ok (.bipush 7, 2) := by decide +kernel
theorem dX10_held_13 : decode cX10_held 13 = .ok (.if_icmp .gt 10, 3) := by decide +kernel
theorem dX10_held_16 : decode cX10_held 16 = .ok (.aload_n 2, 1) := by decide +kernel
theorem dX10_held_17 : decode cX10_held 17 = .ok (.invokevirtual 217, 3) := by decide +kernel
theorem dX10_held_20 : decode cX10_held 20 = .ok (.ifCond .ne 6, 3) := by decide +kernel
theorem dX10_held_23 : decode cX10_held 23 = .ok (.ldc 153, 2) := by decide +kernel
theorem dX10_held_25 : decode cX10_held 25 = .ok (.ireturn, 1) := by decide +kernel
set_option maxRecDepth 20000 in
theorem ggX10_share_X10_growEarnest : GoodIn wsX10_share wsX10_growEarnest := goodIn_r _ [6, 7, 8, 9, 10, 11, 12, 13, 14, 15, 16, 17, 18, 19, 20, 21, 22, 23, 24, 25, 26, 27, 28, 29, 30, 31, 32, 33, 34, 35, 36, 37, 38, 39, 40, 41, 42, 43, 44, 45, 46, 47, 48, 49, 50, 51, 52, 53, 54, 55, 56, 57, 58, 59, 60, 61, 62, 63, 64, 65, 66, 67, 68, 69, 70, 71, 72, 73, 74, 75, 76, 77, 78, 79, 80, 81, 82, 83, 84, 85, 86, 87, 88, 89, 90, 91, 92, 93, 94, 95, 96, 97, 98, 163, 164, 165, 166, 167, 168, 169, 170, 171, 172, 173, 174, 175, 176, 177, 178, 179, 180, 181, 182, 183, 184, 185, 186, 187, 188, 189, 190, 191, 192, 193, 194, 195, 196, 197, 198, 199, 200, 201, 202, 203, 204, 205, 206, 207, 208, 209, 210, 211, 212, 213, 214, 215, 216, 217, 218] (by decide +kernel) (by decide +kernel)
set_option maxRecDepth 20000 in
theorem gX10_share_X10_growEarnest : GoodIn wsX10_share (wsV RX10 213 RX10 yX10_growEarnest wsX10_growEarnest) := goodIn_app (goodIn_of _ (by decide +kernel)) ggX10_share_X10_growEarnest
set_option maxRecDepth 20000 in
theorem ggX10_share_X10_isGuild : GoodIn wsX10_share wsX10_isGuild := goodIn_r _ [101] (by decide +kernel) (by decide +kernel)
set_option maxRecDepth 20000 in
theorem gX10_share_X10_isGuild : GoodIn wsX10_share (va_wsS RX10 147 yX10_isGuild wsX10_isGuild) := goodIn_app (goodIn_of _ (by decide +kernel)) ggX10_share_X10_isGuild
set_option maxRecDepth 20000 in
theorem ggX10_share_X9_hasCharters : GoodIn wsX10_share wsX9_hasCharters := goodIn_r _ [105, 25, 26, 190, 191, 192, 193, 194, 195, 196, 197, 198, 199, 200] (by decide +kernel) (by decide +kernel)
set_option maxRecDepth 20000 in
theorem gX10_share_X9_hasCharters : GoodIn wsX10_share (wsV RX10 217 RX9 yX9_hasCharters wsX9_hasCharters) := goodIn_app (goodIn_of _ (by decide +kernel)) ggX10_share_X9_hasCharters
theorem dX10_share_0 : decode cX10_share 0 = .ok (.aload_n 0, 1) := by decide +kernel
theorem dX10_share_1 : decode cX10_share 1 = .ok (.invokevirtual 213, 3) := by decide +kernel
theorem dX10_share_4 : decode cX10_share 4 = .ok (.astore_n 3, 1) := by decide +kernel
theorem dX10_share_5 : decode cX10_share 5 = .ok (.iload_n 1, 1) := by decide +kernel
theorem dX10_share_6 : decode cX10_share 6 = .ok (.invokestatic 147, 3) := by decide +kernel
theorem dX10_share_9 : decode cX10_share 9 = .ok (.ifCond .eq 19, 3) := by decide +kernel
theorem dX10_share_12 : decode cX10_share 12 = .ok (.iload_n 2, 1) := by decide +kernel
theorem dX10_share_13 : decode cX10_share 13 = .ok (.ifCond .lt 15, 3) := by decide +kernel
theorem dX10_share_16 : decode cX10_share 16 = .ok (.iload_n 2, 1) := by decide +kernel
theorem dX10_share_17 : decode cX10_share 17 = .ok (.iconst 1, 1) := by decide +kernel
theorem dX10_share_18 : decode cX10_share 18 = .ok (.if_icmp .gt 10, 3) := by decide +kernel
theorem dX10_share_21 : decode cX10_share 21 = .ok (.aload_n 3, 1) := by decide +kernel
theorem dX10_share_22 : decode cX10_share 22 = .ok (.invokevirtual 217, 3) := by decide +kernel
theorem dX10_share_25 : decode cX10_share 25 = .ok (.ifCond .ne 6, 3) := by decide +kernel
theorem dX10_share_28 : decode cX10_share 28 = .ok (.ldc 153, 2) := by decide +kernel
theorem dX10_share_30 : decode cX10_share 30 = .ok (.ireturn, 1) := by decide +kernel
set_option maxRecDepth 20000 in
theorem ggX10_swap_X10_growEarnest : GoodIn wsX10_swap wsX10_growEarnest := goodIn_r _ [8, 2, 3, 9, 10, 11, 12, 13, 14, 15, 16, 17, 18, 19, 20, 21, 22, 23, 24, 25, 26, 27, 28, 29, 30, 31, 32, 33, 34, 35, 36, 37, 38, 39, 40, 41, 42, 43, 44, 45, 46, 47, 48, 49, 50, 51, 52, 53, 54, 55, 56, 57, 58, 59, 60, 61, 62, 63, 64, 65, 66, 67, 68, 69, 70, 71, 72, 73, 74, 75, 76, 77, 78, 79, 80, 81, 82, 83, 84, 85, 86, 87, 88, 89, 90, 91, 92, 93, 94, 95, 96, 97, 98, 171, 172, 173, 174, 175, 176, 177, 178, 179, 180, 181, 182, 183, 184, 185, 186, 187, 188, 189, 190, 191, 192, 193, 194, 195, 196, 197, 198, 199, 200, 201, 202, 203, 204, 205, 206, 207, 208, 209, 210, 211, 212, 213, 214, 215, 216, 217, 218, 219, 220, 221, 222, 223, 224, 225, 226] (by decide +kernel) (by decide +kernel)
set_option maxRecDepth 20000 in
theorem gX10_swap_X10_growEarnest : GoodIn wsX10_swap (wsV RX10 213 RX10 yX10_growEarnest wsX10_growEarnest) := goodIn_app (goodIn_of _ (by decide +kernel)) ggX10_swap_X10_growEarnest
set_option maxRecDepth 20000 in
theorem ggX10_swap_X9_hasCharters : GoodIn wsX10_swap wsX9_hasCharters := goodIn_r _ [102, 25, 26, 198, 199, 200, 201, 202, 203, 204, 205, 206, 207, 208] (by decide +kernel) (by decide +kernel)
set_option maxRecDepth 20000 in
theorem gX10_swap_X9_hasCharters : GoodIn wsX10_swap (wsV RX10 217 RX9 yX9_hasCharters wsX9_hasCharters) := goodIn_app (goodIn_of _ (by decide +kernel)) ggX10_swap_X9_hasCharters
theorem dX10_swap_0 : decode cX10_swap 0 = .ok (.aload_n 0, 1) := by decide +kernel
theorem dX10_swap_1 : decode cX10_swap 1 = .ok (.invokevirtual 213, 3) := by decide +kernel
theorem dX10_swap_4 : decode cX10_swap 4 = .ok (.astore_n 1, 1) := by decide +kernel
theorem dX10_swap_5 : decode cX10_swap 5 = .ok (.aload_n 1, 1) := by decide +kernel
theorem dX10_swap_6 : decode cX10_swap 6 = .ok (.invokevirtual 217, 3) := by decide +kernel
theorem dX10_swap_9 : decode cX10_swap 9 = .ok (.ifCond .ne 5, 3) := by decide +kernel
theorem dX10_swap_12 : decode cX10_swap 12 = .ok (.iconst (-1), 1) := by decide +kernel
theorem dX10_swap_13 : decode cX10_swap 13 = .ok (.ireturn, 1) := by decide +kernel
set_option maxRecDepth 20000 in
theorem ggX10_bribe_X10_isUnwritten : GoodIn wsX10_bribe wsX10_isUnwritten := goodIn_r _ [7, 1, 8, 9, 10, 11, 12, 13, 14, 15, 182, 183, 184, 185, 186, 187, 188, 189, 190, 191, 192, 193, 194, 195, 196, 197, 198, 199, 200, 201, 202, 203, 204, 205, 206, 207, 208, 209, 210, 211, 212, 213, 214, 215, 216, 217, 218, 219, 220, 221, 222, 223, 224] (by decide +kernel) (by decide +kernel)
set_option maxRecDepth 20000 in
theorem gX10_bribe_X10_isUnwritten : GoodIn wsX10_bribe (wsV RX10 180 RX10 yX10_isUnwritten wsX10_isUnwritten) := goodIn_app (goodIn_of _ (by decide +kernel)) ggX10_bribe_X10_isUnwritten
set_option maxRecDepth 20000 in
theorem ggX10_bribe_X4_hasWord : GoodIn wsX10_bribe wsX4_hasWord := goodIn_r _ [19, 20, 209, 210, 211, 212, 213, 214, 215, 216, 217, 218, 219, 220, 221, 222, 223, 224] (by decide +kernel) (by decide +kernel)
set_option maxRecDepth 20000 in
theorem gX10_bribe_X4_hasWord : GoodIn wsX10_bribe (wsV RX10 143 RX4 yX4_hasWord wsX4_hasWord) := goodIn_app (goodIn_of _ (by decide +kernel)) ggX10_bribe_X4_hasWord
theorem dX10_bribe_0 : decode cX10_bribe 0 = .ok (.aload_n 0, 1) := by decide +kernel
theorem dX10_bribe_1 : decode cX10_bribe 1 = .ok (.iload_n 1, 1) := by decide +kernel
theorem dX10_bribe_2 : decode cX10_bribe 2 = .ok (.invokevirtual 180, 3) := by decide +kernel
theorem dX10_bribe_5 : decode cX10_bribe 5 = .ok (.ifCond .eq 14, 3) := by decide +kernel
theorem dX10_bribe_8 : decode cX10_bribe 8 = .ok (.aload_n 0, 1) := by decide +kernel
theorem dX10_bribe_9 : decode cX10_bribe 9 = .ok (.getfield 23, 3) := by decide +kernel
theorem dX10_bribe_12 : decode cX10_bribe 12 = .ok (.iload_n 2, 1) := by decide +kernel
theorem dX10_bribe_13 : decode cX10_bribe 13 = .ok (.invokevirtual 143, 3) := by decide +kernel
theorem dX10_bribe_16 : decode cX10_bribe 16 = .ok (.ifCond .ne 6, 3) := by decide +kernel
theorem dX10_bribe_19 : decode cX10_bribe 19 = .ok (.bipush (-2), 2) := by decide +kernel
theorem dX10_bribe_21 : decode cX10_bribe 21 = .ok (.ireturn, 1) := by decide +kernel
set_option maxRecDepth 20000 in
theorem ggX10_used_X4_findShortest : GoodIn wsX10_used wsX4_findShortest := goodIn_r _ [7, 8, 9, 10, 11, 12, 13, 6, 14, 15, 16, 43, 44, 45, 46, 47, 48, 49, 50, 51, 52, 53, 54, 55, 56, 57, 58] (by decide +kernel) (by decide +kernel)
set_option maxRecDepth 20000 in
theorem gX10_used_X4_findShortest : GoodIn wsX10_used (wsV RX10 265 RX4 yX4_findShortest wsX4_findShortest) := goodIn_app (goodIn_of _ (by decide +kernel)) ggX10_used_X4_findShortest
set_option maxRecDepth 20000 in
theorem ggX10_used_X4_rulesOfUse : GoodIn wsX10_used wsX4_rulesOfUse := goodIn_r _ [20, 9, 21, 22, 23, 6, 24, 10, 15, 16, 11, 12, 13, 14, 43, 44, 45, 46, 47, 48, 49, 50, 51, 52, 53, 54, 55, 56, 57, 58] (by decide +kernel) (by decide +kernel)
set_option maxRecDepth 20000 in
theorem gX10_used_X4_rulesOfUse : GoodIn wsX10_used (wsV RX10 269 RX4 yX4_rulesOfUse wsX4_rulesOfUse) := goodIn_app (goodIn_of _ (by decide +kernel)) ggX10_used_X4_rulesOfUse
theorem dX10_used_0 : decode cX10_used 0 = .ok (.aload_n 0, 1) := by decide +kernel
theorem dX10_used_1 : decode cX10_used 1 = .ok (.getfield 23, 3) := by decide +kernel
theorem dX10_used_4 : decode cX10_used 4 = .ok (.aload_n 0, 1) := by decide +kernel
theorem dX10_used_5 : decode cX10_used 5 = .ok (.getfield 89, 3) := by decide +kernel
theorem dX10_used_8 : decode cX10_used 8 = .ok (.invokevirtual 265, 3) := by decide +kernel
theorem dX10_used_11 : decode cX10_used 11 = .ok (.aload_n 0, 1) := by decide +kernel
theorem dX10_used_12 : decode cX10_used 12 = .ok (.getfield 23, 3) := by decide +kernel
theorem dX10_used_15 : decode cX10_used 15 = .ok (.aload_n 0, 1) := by decide +kernel
theorem dX10_used_16 : decode cX10_used 16 = .ok (.getfield 89, 3) := by decide +kernel
theorem dX10_used_19 : decode cX10_used 19 = .ok (.invokevirtual 269, 3) := by decide +kernel
theorem dX10_used_22 : decode cX10_used 22 = .ok (.ireturn, 1) := by decide +kernel
theorem dX10_shortest_0 : decode cX10_shortest 0 = .ok (.iload_n 1, 1) := by decide +kernel
theorem dX10_shortest_1 : decode cX10_shortest 1 = .ok (.ifCond .lt 14, 3) := by decide +kernel
theorem dX10_shortest_4 : decode cX10_shortest 4 = .ok (.iload_n 1, 1) := by decide +kernel
theorem dX10_shortest_5 : decode cX10_shortest 5 = .ok (.aload_n 0, 1) := by decide +kernel
theorem dX10_shortest_6 : decode cX10_shortest 6 = .ok (.getfield 23, 3) := by decide +kernel
theorem dX10_shortest_9 : decode cX10_shortest 9 = .ok (.getfield 273, 3) := by decide +kernel
theorem dX10_shortest_12 : decode cX10_shortest 12 = .ok (.if_icmp .lt 5, 3) := by decide +kernel
theorem dX10_shortest_15 : decode cX10_shortest 15 = .ok (.iconst (-1), 1) := by decide +kernel
theorem dX10_shortest_16 : decode cX10_shortest 16 = .ok (.ireturn, 1) := by decide +kernel
set_option maxRecDepth 20000 in
theorem ggX10_doubtful_X10_growWhole : GoodIn wsX10_doubtful wsX10_growWhole := goodIn_r _ [12, 13, 6, 14, 15, 16, 17, 18, 19, 20, 21, 22, 23, 24, 25, 26, 27, 28, 29, 30, 31, 32, 33, 34, 35, 36, 37, 38, 39, 40, 41, 42, 43, 44, 45, 46, 47, 48, 49, 50, 51, 52, 53, 54, 55, 56, 57, 58, 59, 60, 61, 62, 63, 64, 65, 66, 67, 68, 69, 70, 71, 72, 73, 74, 75, 76, 77, 78, 79, 80, 81, 82, 83, 84, 85, 86, 87, 88, 89, 90, 91, 92, 93, 94, 95, 96, 97, 98, 99, 100, 101, 145, 146, 147, 148, 149, 150, 151, 152, 153, 154, 155, 156, 157, 158, 159, 160, 161, 162, 190, 191, 192, 193, 194, 195, 196, 197, 198, 163, 164, 165, 166, 167, 168, 169, 170, 171, 172, 173, 174, 175, 176, 177, 178, 179, 180, 181, 182, 183, 184, 185, 186, 187, 188, 189, 199, 200] (by decide +kernel) (by decide +kernel)
set_option maxRecDepth 20000 in
theorem gX10_doubtful_X10_growWhole : GoodIn wsX10_doubtful (wsV RX10 276 RX10 yX10_growWhole wsX10_growWhole) := goodIn_app (goodIn_of _ (by decide +kernel)) ggX10_doubtful_X10_growWhole
theorem dX10_doubtful_0 : decode cX10_doubtful 0 = .ok (.aload_n 0, 1) := by decide +kernel
theorem dX10_doubtful_1 : decode cX10_doubtful 1 = .ok (.iconst 0, 1) := by decide +kernel
theorem dX10_doubtful_2 : decode cX10_doubtful 2 = .ok (.putfield 128, 3) := by decide +kernel
theorem dX10_doubtful_5 : decode cX10_doubtful 5 = .ok (.aload_n 0, 1) := by decide +kernel
theorem dX10_doubtful_6 : decode cX10_doubtful 6 = .ok (.invokevirtual 276, 3) := by decide +kernel
theorem dX10_doubtful_9 : decode cX10_doubtful 9 = .ok (.astore_n 1, 1) := by decide +kernel
theorem dX10_doubtful_10 : decode cX10_doubtful 10 = .ok (.aload_n 1, 1) := by decide +kernel
theorem dX10_doubtful_11 : decode cX10_doubtful 11 = .ok (.getfield 279, 3) := by decide +kernel
theorem dX10_doubtful_14 : decode cX10_doubtful 14 = .ok (.ifCond .eq 6, 3) := by decide +kernel
theorem dX10_doubtful_20 : decode cX10_doubtful 20 = .ok (.iconst 0, 1) := by decide +kernel
theorem dX10_doubtful_21 : decode cX10_doubtful 21 = .ok (.istore_n 2, 1) := by decide +kernel
theorem dX10_doubtful_22 : decode cX10_doubtful 22 = .ok (.iload_n 2, 1) := by decide +kernel
theorem dX10_doubtful_23 : decode cX10_doubtful 23 = .ok (.aload_n 1, 1) := by decide +kernel
theorem dX10_doubtful_24 : decode cX10_doubtful 24 = .ok (.getfield 282, 3) := by decide +kernel
theorem dX10_doubtful_27 : decode cX10_doubtful 27 = .ok (.if_icmp .ge 62, 3) := by decide +kernel
theorem dX10_doubtful_89 : decode cX10_doubtful 89 = .ok (.iconst 0, 1) := by decide +kernel
theorem dX10_doubtful_90 : decode cX10_doubtful 90 = .ok (.ireturn, 1) := by decide +kernel
set_option maxRecDepth 20000 in
theorem ggX10_lots_X10_growWhole : GoodIn wsX10_lots wsX10_growWhole := goodIn_r _ [9, 10, 11, 12, 13, 14, 15, 16, 17, 18, 19, 20, 21, 22, 23, 24, 25, 26, 27, 28, 29, 30, 31, 32, 33, 34, 35, 36, 37, 38, 39, 40, 41, 42, 43, 44, 45, 46, 47, 48, 49, 50, 51, 52, 53, 54, 55, 56, 57, 58, 59, 60, 61, 62, 63, 64, 65, 66, 67, 68, 69, 70, 71, 72, 73, 74, 75, 76, 77, 78, 79, 80, 81, 82, 83, 84, 85, 86, 87, 88, 89, 90, 91, 92, 93, 94, 95, 96, 97, 98, 99, 157, 158, 159, 160, 161, 162, 163, 164, 165, 166, 167, 168, 169, 170, 171, 172, 173, 174, 195, 196, 197, 198, 199, 200, 201, 202, 203, 175, 176, 177, 178, 179, 180, 181, 182, 183, 184, 185, 204, 205, 206, 207, 208, 209, 210, 211, 212, 213, 214, 215, 216, 217, 218, 219, 220, 221] (by decide +kernel) (by decide +kernel)
set_option maxRecDepth 20000 in
theorem gX10_lots_X10_growWhole : GoodIn wsX10_lots (wsV RX10 276 RX10 yX10_growWhole wsX10_growWhole) := goodIn_app (goodIn_of _ (by decide +kernel)) ggX10_lots_X10_growWhole
set_option maxRecDepth 20000 in
theorem ggX10_lots_X10_isGuild : GoodIn wsX10_lots wsX10_isGuild := goodIn_r _ [102] (by decide +kernel) (by decide +kernel)
set_option maxRecDepth 20000 in
theorem gX10_lots_X10_isGuild : GoodIn wsX10_lots (va_wsS RX10 147 yX10_isGuild wsX10_isGuild) := goodIn_app (goodIn_of _ (by decide +kernel)) ggX10_lots_X10_isGuild
set_option maxRecDepth 20000 in
theorem ggX10_lots_X9_hasCharters : GoodIn wsX10_lots wsX9_hasCharters := goodIn_r _ [106, 26, 27, 175, 176, 177, 178, 179, 180, 181, 182, 183, 184, 185] (by decide +kernel) (by decide +kernel)
set_option maxRecDepth 20000 in
theorem gX10_lots_X9_hasCharters : GoodIn wsX10_lots (wsV RX10 217 RX9 yX9_hasCharters wsX9_hasCharters) := goodIn_app (goodIn_of _ (by decide +kernel)) ggX10_lots_X9_hasCharters
theorem dX10_lots_0 : decode cX10_lots 0 = .ok (.aload_n 0, 1) := by decide +kernel
theorem dX10_lots_1 : decode cX10_lots 1 = .ok (.invokevirtual 276, 3) := by decide +kernel
theorem dX10_lots_4 : decode cX10_lots 4 = .ok (.astore_n 2, 1) := by decide +kernel
theorem dX10_lots_5 : decode cX10_lots 5 = .ok (.iload_n 1, 1) := by decide +kernel
theorem dX10_lots_6 : decode cX10_lots 6 = .ok (.invokestatic 147, 3) := by decide +kernel
theorem dX10_lots_9 : decode cX10_lots 9 = .ok (.ifCond .eq 10, 3) := by decide +kernel
theorem dX10_lots_12 : decode cX10_lots 12 = .ok (.aload_n 2, 1) := by decide +kernel
theorem dX10_lots_13 : decode cX10_lots 13 = .ok (.invokevirtual 217, 3) := by decide +kernel
theorem dX10_lots_16 : decode cX10_lots 16 = .ok (.ifCond .ne 6, 3) := by decide +kernel
theorem dX10_lots_19 : decode cX10_lots 19 = .ok (.ldc 153, 2) := by decide +kernel
theorem dX10_lots_21 : decode cX10_lots 21 = .ok (.ireturn, 1) := by decide +kernel
set_option maxRecDepth 20000 in
theorem ggX10_hole_X4_hasPlace : GoodIn wsX10_hole wsX4_hasPlace := goodIn_r _ [7, 8, 32, 33, 34, 35, 36, 37, 38, 39, 40, 41, 42, 43, 44, 45, 46, 47] (by decide +kernel) (by decide +kernel)
set_option maxRecDepth 20000 in
theorem gX10_hole_X4_hasPlace : GoodIn wsX10_hole (wsV RX10 157 RX4 yX4_hasPlace wsX4_hasPlace) := goodIn_app (goodIn_of _ (by decide +kernel)) ggX10_hole_X4_hasPlace
set_option maxRecDepth 20000 in
theorem ggX10_hole_X4_hasWord : GoodIn wsX10_hole wsX4_hasWord := goodIn_r _ [12, 13, 32, 33, 34, 35, 36, 37, 38, 39, 40, 41, 42, 43, 44, 45, 46, 47] (by decide +kernel) (by decide +kernel)
set_option maxRecDepth 20000 in
theorem gX10_hole_X4_hasWord : GoodIn wsX10_hole (wsV RX10 143 RX4 yX4_hasWord wsX4_hasWord) := goodIn_app (goodIn_of _ (by decide +kernel)) ggX10_hole_X4_hasWord
theorem dX10_hole_0 : decode cX10_hole 0 = .ok (.aload_n 0, 1) := by decide +kernel
theorem dX10_hole_1 : decode cX10_hole 1 = .ok (.getfield 23, 3) := by decide +kernel
theorem dX10_hole_4 : decode cX10_hole 4 = .ok (.iload_n 1, 1) := by decide +kernel
theorem dX10_hole_5 : decode cX10_hole 5 = .ok (.invokevirtual 157, 3) := by decide +kernel
theorem dX10_hole_8 : decode cX10_hole 8 = .ok (.ifCond .eq 19, 3) := by decide +kernel
theorem dX10_hole_11 : decode cX10_hole 11 = .ok (.iload_n 2, 1) := by decide +kernel
theorem dX10_hole_12 : decode cX10_hole 12 = .ok (.iconst (-1), 1) := by decide +kernel
theorem dX10_hole_13 : decode cX10_hole 13 = .ok (.if_icmp .eq 16, 3) := by decide +kernel
theorem dX10_hole_16 : decode cX10_hole 16 = .ok (.aload_n 0, 1) := by decide +kernel
theorem dX10_hole_17 : decode cX10_hole 17 = .ok (.getfield 23, 3) := by decide +kernel
theorem dX10_hole_20 : decode cX10_hole 20 = .ok (.iload_n 2, 1) := by decide +kernel
theorem dX10_hole_21 : decode cX10_hole 21 = .ok (.invokevirtual 143, 3) := by decide +kernel
theorem dX10_hole_24 : decode cX10_hole 24 = .ok (.ifCond .ne 5, 3) := by decide +kernel
theorem dX10_hole_27 : decode cX10_hole 27 = .ok (.iconst 0, 1) := by decide +kernel
theorem dX10_hole_28 : decode cX10_hole 28 = .ok (.ireturn, 1) := by decide +kernel
theorem dX10_hole_29 : decode cX10_hole 29 = .ok (.iload_n 1, 1) := by decide +kernel
theorem dX10_hole_30 : decode cX10_hole 30 = .ok (.iconst 4, 1) := by decide +kernel
theorem dX10_hole_31 : decode cX10_hole 31 = .ok (.imul, 1) := by decide +kernel
theorem dX10_hole_32 : decode cX10_hole 32 = .ok (.istore_n 3, 1) := by decide +kernel
theorem dX10_hole_33 : decode cX10_hole 33 = .ok (.aload_n 0, 1) := by decide +kernel
theorem dX10_hole_34 : decode cX10_hole 34 = .ok (.aload_n 0, 1) := by decide +kernel
theorem dX10_hole_35 : decode cX10_hole 35 = .ok (.getfield 122, 3) := by decide +kernel
theorem dX10_hole_38 : decode cX10_hole 38 = .ok (.bipush 15, 2) := by decide +kernel
theorem dX10_hole_40 : decode cX10_hole 40 = .ok (.iload_n 3, 1) := by decide +kernel
theorem dX10_hole_41 : decode cX10_hole 41 = .ok (.ishl, 1) := by decide +kernel
theorem dX10_hole_42 : decode cX10_hole 42 = .ok (.iconst (-1), 1) := by decide +kernel
theorem dX10_hole_43 : decode cX10_hole 43 = .ok (.ixor, 1) := by decide +kernel
theorem dX10_hole_44 : decode cX10_hole 44 = .ok (.iand, 1) := by decide +kernel
theorem dX10_hole_45 : decode cX10_hole 45 = .ok (.iload_n 2, 1) := by decide +kernel
theorem dX10_hole_46 : decode cX10_hole 46 = .ok (.iconst 1, 1) := by decide +kernel
theorem dX10_hole_47 : decode cX10_hole 47 = .ok (.iadd, 1) := by decide +kernel
theorem dX10_hole_48 : decode cX10_hole 48 = .ok (.iload_n 3, 1) := by decide +kernel
theorem dX10_hole_49 : decode cX10_hole 49 = .ok (.ishl, 1) := by decide +kernel
theorem dX10_hole_50 : decode cX10_hole 50 = .ok (.ior, 1) := by decide +kernel
theorem dX10_hole_51 : decode cX10_hole 51 = .ok (.putfield 122, 3) := by decide +kernel
theorem dX10_hole_54 : decode cX10_hole 54 = .ok (.iconst 1, 1) := by decide +kernel
theorem dX10_hole_55 : decode cX10_hole 55 = .ok (.ireturn, 1) := by decide +kernel
set_option maxRecDepth 20000 in
theorem ggX10_fit_X10_growHoles : GoodIn wsX10_fit wsX10_growHoles := goodIn_r _ [7, 8, 9, 10, 11, 12, 13, 14, 15, 16, 17, 18, 19, 20, 21, 22, 23, 24, 25, 26, 27, 28, 29, 30, 31, 32, 33, 34, 35, 36, 37, 38, 39, 40, 41, 42, 43, 44, 45, 46, 47, 48, 49, 50, 51, 52, 53, 54, 55, 56, 57, 58, 59, 60, 61, 62, 63, 64, 65, 66, 67, 68, 69, 70, 71, 72, 73, 74, 75, 76, 77, 78, 79, 80, 81, 82, 83, 84, 85, 86, 87, 88, 89, 90, 91, 92, 93, 94, 95, 96, 97, 98, 99, 115, 116, 117, 118, 119, 120, 121, 122, 123, 124, 125, 126, 127, 128, 129, 130, 131, 132, 133, 134, 135, 136, 137, 138, 139, 140, 141, 104, 105, 106, 107, 108, 109, 110, 111, 112, 113, 114, 142, 143, 144, 145, 146, 147, 148, 149, 150, 151, 152, 153, 154, 155, 156, 157, 158, 159] (by decide +kernel) (by decide +kernel)
set_option maxRecDepth 20000 in
theorem gX10_fit_X10_growHoles : GoodIn wsX10_fit (wsV RX10 297 RX10 yX10_growHoles wsX10_growHoles) := goodIn_app (goodIn_of _ (by decide +kernel)) ggX10_fit_X10_growHoles
theorem dX10_fit_0 : decode cX10_fit 0 = .ok (.aload_n 0, 1) := by decide +kernel
theorem dX10_fit_1 : decode cX10_fit 1 = .ok (.invokevirtual 297, 3) := by decide +kernel
theorem dX10_fit_4 : decode cX10_fit 4 = .ok (.astore_n 1, 1) := by decide +kernel
theorem dX10_fit_5 : decode cX10_fit 5 = .ok (.aload_n 1, 1) := by decide +kernel
theorem dX10_fit_6 : decode cX10_fit 6 = .ok (.getfield 279, 3) := by decide +kernel
theorem dX10_fit_9 : decode cX10_fit 9 = .ok (.ifCond .eq 6, 3) := by decide +kernel
theorem dX10_fit_15 : decode cX10_fit 15 = .ok (.iconst 0, 1) := by decide +kernel
theorem dX10_fit_16 : decode cX10_fit 16 = .ok (.istore_n 2, 1) := by decide +kernel
theorem dX10_fit_17 : decode cX10_fit 17 = .ok (.iconst 0, 1) := by decide +kernel
theorem dX10_fit_18 : decode cX10_fit 18 = .ok (.istore_n 3, 1) := by decide +kernel
theorem dX10_fit_19 : decode cX10_fit 19 = .ok (.iload_n 3, 1) := by decide +kernel
theorem dX10_fit_20 : decode cX10_fit 20 = .ok (.aload_n 1, 1) := by decide +kernel
theorem dX10_fit_21 : decode cX10_fit 21 = .ok (.getfield 282, 3) := by decide +kernel
theorem dX10_fit_24 : decode cX10_fit 24 = .ok (.if_icmp .ge 20, 3) := by decide +kernel
theorem dX10_fit_44 : decode cX10_fit 44 = .ok (.iload_n 2, 1) := by decide +kernel
theorem dX10_fit_45 : decode cX10_fit 45 = .ok (.ireturn, 1) := by decide +kernel
set_option maxRecDepth 20000 in
theorem ggX10_best_X10_growHoles : GoodIn wsX10_best wsX10_growHoles := goodIn_r _ [10, 11, 12, 13, 14, 15, 16, 17, 18, 19, 20, 21, 22, 23, 24, 25, 26, 27, 28, 29, 30, 31, 32, 33, 34, 35, 36, 37, 38, 39, 40, 41, 42, 43, 44, 45, 46, 47, 48, 49, 50, 51, 52, 53, 54, 55, 56, 57, 58, 59, 60, 61, 62, 63, 64, 65, 66, 67, 68, 69, 70, 71, 72, 73, 74, 75, 76, 77, 78, 79, 80, 81, 82, 83, 84, 85, 86, 87, 88, 89, 90, 91, 92, 93, 94, 95, 96, 97, 98, 99, 100, 101, 102, 120, 121, 122, 123, 124, 125, 126, 127, 128, 129, 130, 131, 132, 133, 134, 135, 136, 137, 149, 150, 151, 152, 153, 154, 155, 156, 157, 138, 139, 140, 141, 142, 143, 144, 145, 146, 147, 148, 158, 159, 160, 161, 162, 163, 164, 165, 166, 167, 168, 169, 170, 171, 172, 173, 174, 175] (by decide +kernel) (by decide +kernel)
set_option maxRecDepth 20000 in
theorem gX10_best_X10_growHoles : GoodIn wsX10_best (wsV RX10 297 RX10 yX10_growHoles wsX10_growHoles) := goodIn_app (goodIn_of _ (by decide +kernel)) ggX10_best_X10_growHoles
set_option maxRecDepth 20000 in
theorem ggX10_best_X10_isGuild : GoodIn wsX10_best wsX10_isGuild := goodIn_r _ [105] (by decide +kernel) (by decide +kernel)
set_option maxRecDepth 20000 in
theorem gX10_best_X10_isGuild : GoodIn wsX10_best (va_wsS RX10 147 yX10_isGuild wsX10_isGuild) := goodIn_app (goodIn_of _ (by decide +kernel)) ggX10_best_X10_isGuild
theorem dX10_best_0 : decode cX10_best 0 = .ok (.aload_n 0, 1) := by decide +kernel
theorem dX10_best_1 : decode cX10_best 1 = .ok (.iconst 0, 1) := by decide +kernel
theorem dX10_best_2 : decode cX10_best 2 = .ok (.putfield 128, 3) := by decide +kernel
theorem dX10_best_5 : decode cX10_best 5 = .ok (.aload_n 0, 1) := by decide +kernel
theorem dX10_best_6 : decode cX10_best 6 = .ok (.invokevirtual 297, 3) := by decide +kernel
theorem dX10_best_9 : decode cX10_best 9 = .ok (.astore_n 2, 1) := by decide +kernel
theorem dX10_best_10 : decode cX10_best 10 = .ok (.iload_n 1, 1) := by decide +kernel
theorem dX10_best_11 : decode cX10_best 11 = .ok (.invokestatic 147, 3) := by decide +kernel
theorem dX10_best_14 : decode cX10_best 14 = .ok (.ifCond .eq 10, 3) := by decide +kernel
theorem dX10_best_17 : decode cX10_best 17 = .ok (.aload_n 2, 1) := by decide +kernel
theorem dX10_best_18 : decode cX10_best 18 = .ok (.getfield 279, 3) := by decide +kernel
theorem dX10_best_21 : decode cX10_best 21 = .ok (.ifCond .eq 6, 3) := by decide +kernel
theorem dX10_best_24 : decode cX10_best 24 = .ok (.ldc 153, 2) := by decide +kernel
theorem dX10_best_26 : decode cX10_best 26 = .ok (.ireturn, 1) := by decide +kernel
theorem dX10_best_27 : decode cX10_best 27 = .ok (.ldc 153, 2) := by decide +kernel
theorem dX10_best_29 : decode cX10_best 29 = .ok (.istore_n 3, 1) := by decide +kernel
theorem dX10_best_30 : decode cX10_best 30 = .ok (.iconst 0, 1) := by decide +kernel
theorem dX10_best_31 : decode cX10_best 31 = .ok (.istore 4, 2) := by decide +kernel
theorem dX10_best_33 : decode cX10_best 33 = .ok (.iload 4, 2) := by decide +kernel
theorem dX10_best_35 : decode cX10_best 35 = .ok (.aload_n 2, 1) := by decide +kernel
theorem dX10_best_36 : decode cX10_best 36 = .ok (.getfield 282, 3) := by decide +kernel
theorem dX10_best_39 : decode cX10_best 39 = .ok (.if_icmp .ge 52, 3) := by decide +kernel
theorem dX10_best_91 : decode cX10_best 91 = .ok (.iload_n 3, 1) := by decide +kernel
theorem dX10_best_92 : decode cX10_best 92 = .ok (.ireturn, 1) := by decide +kernel
set_option maxRecDepth 20000 in
theorem ggX10_struck_X10_isGuild : GoodIn wsX10_struck wsX10_isGuild := goodIn_r _ [11] (by decide +kernel) (by decide +kernel)
set_option maxRecDepth 20000 in
theorem gX10_struck_X10_isGuild : GoodIn wsX10_struck (va_wsS RX10 147 yX10_isGuild wsX10_isGuild) := goodIn_app (goodIn_of _ (by decide +kernel)) ggX10_struck_X10_isGuild
set_option maxRecDepth 20000 in
theorem ggX10_struck_X7_countOf : GoodIn wsX10_struck wsX7_countOf := goodIn_r _ [16, 17, 18, 19, 20, 21, 22, 23, 15, 24, 25, 26, 27, 28, 29, 30, 31, 32, 33, 34, 35, 36, 82, 83, 84, 85, 86, 87, 88, 89, 90, 91, 92, 93, 94, 95, 96, 97, 98, 99, 100] (by decide +kernel) (by decide +kernel)
set_option maxRecDepth 20000 in
theorem gX10_struck_X7_countOf : GoodIn wsX10_struck (wsV RX10 205 RX7 yX7_countOf wsX7_countOf) := goodIn_app (goodIn_of _ (by decide +kernel)) ggX10_struck_X7_countOf
theorem dX10_struck_0 : decode cX10_struck 0 = .ok (.iload_n 1, 1) := by decide +kernel
theorem dX10_struck_1 : decode cX10_struck 1 = .ok (.invokestatic 147, 3) := by decide +kernel
theorem dX10_struck_4 : decode cX10_struck 4 = .ok (.ifCond .eq 31, 3) := by decide +kernel
theorem dX10_struck_7 : decode cX10_struck 7 = .ok (.aload_n 0, 1) := by decide +kernel
theorem dX10_struck_8 : decode cX10_struck 8 = .ok (.getfield 54, 3) := by decide +kernel
theorem dX10_struck_11 : decode cX10_struck 11 = .ok (.aload_n 0, 1) := by decide +kernel
theorem dX10_struck_12 : decode cX10_struck 12 = .ok (.getfield 23, 3) := by decide +kernel
theorem dX10_struck_15 : decode cX10_struck 15 = .ok (.aload_n 0, 1) := by decide +kernel
theorem dX10_struck_16 : decode cX10_struck 16 = .ok (.getfield 33, 3) := by decide +kernel
theorem dX10_struck_19 : decode cX10_struck 19 = .ok (.getfield 194, 3) := by decide +kernel
theorem dX10_struck_22 : decode cX10_struck 22 = .ok (.aload_n 0, 1) := by decide +kernel
theorem dX10_struck_23 : decode cX10_struck 23 = .ok (.getfield 33, 3) := by decide +kernel
theorem dX10_struck_26 : decode cX10_struck 26 = .ok (.getfield 177, 3) := by decide +kernel
theorem dX10_struck_29 : decode cX10_struck 29 = .ok (.invokevirtual 205, 3) := by decide +kernel
theorem dX10_struck_32 : decode cX10_struck 32 = .ok (.ifCond .ne 5, 3) := by decide +kernel
theorem dX10_struck_35 : decode cX10_struck 35 = .ok (.iconst (-1), 1) := by decide +kernel
theorem dX10_struck_36 : decode cX10_struck 36 = .ok (.ireturn, 1) := by decide +kernel
theorem dX10_lies_0 : decode cX10_lies 0 = .ok (.iload_n 1, 1) := by decide +kernel
theorem dX10_lies_1 : decode cX10_lies 1 = .ok (.ifCond .lt 20, 3) := by decide +kernel
theorem dX10_lies_4 : decode cX10_lies 4 = .ok (.iload_n 1, 1) := by decide +kernel
theorem dX10_lies_5 : decode cX10_lies 5 = .ok (.aload_n 0, 1) := by decide +kernel
theorem dX10_lies_6 : decode cX10_lies 6 = .ok (.getfield 128, 3) := by decide +kernel
theorem dX10_lies_9 : decode cX10_lies 9 = .ok (.if_icmp .ge 12, 3) := by decide +kernel
theorem dX10_lies_21 : decode cX10_lies 21 = .ok (.iconst (-1), 1) := by decide +kernel
theorem dX10_lies_22 : decode cX10_lies 22 = .ok (.ireturn, 1) := by decide +kernel
set_option maxRecDepth 20000 in
theorem ggX10_seen_X4_hasPlace : GoodIn wsX10_seen wsX4_hasPlace := goodIn_r _ [7, 8, 44, 45, 46, 47, 48, 49, 50, 51, 52, 53, 54, 55, 56, 57, 58, 59] (by decide +kernel) (by decide +kernel)
set_option maxRecDepth 20000 in
theorem gX10_seen_X4_hasPlace : GoodIn wsX10_seen (wsV RX10 157 RX4 yX4_hasPlace wsX4_hasPlace) := goodIn_app (goodIn_of _ (by decide +kernel)) ggX10_seen_X4_hasPlace
set_option maxRecDepth 20000 in
theorem ggX10_seen_X4_hasWord : GoodIn wsX10_seen wsX4_hasWord := goodIn_r _ [12, 13, 44, 45, 46, 47, 48, 49, 50, 51, 52, 53, 54, 55, 56, 57, 58, 59] (by decide +kernel) (by decide +kernel)
set_option maxRecDepth 20000 in
theorem gX10_seen_X4_hasWord : GoodIn wsX10_seen (wsV RX10 143 RX4 yX4_hasWord wsX4_hasWord) := goodIn_app (goodIn_of _ (by decide +kernel)) ggX10_seen_X4_hasWord
theorem dX10_seen_0 : decode cX10_seen 0 = .ok (.aload_n 0, 1) := by decide +kernel
theorem dX10_seen_1 : decode cX10_seen 1 = .ok (.getfield 23, 3) := by decide +kernel
theorem dX10_seen_4 : decode cX10_seen 4 = .ok (.iload_n 1, 1) := by decide +kernel
theorem dX10_seen_5 : decode cX10_seen 5 = .ok (.invokevirtual 157, 3) := by decide +kernel
theorem dX10_seen_8 : decode cX10_seen 8 = .ok (.ifCond .eq 14, 3) := by decide +kernel
theorem dX10_seen_11 : decode cX10_seen 11 = .ok (.aload_n 0, 1) := by decide +kernel
theorem dX10_seen_12 : decode cX10_seen 12 = .ok (.getfield 23, 3) := by decide +kernel
theorem dX10_seen_15 : decode cX10_seen 15 = .ok (.iload_n 2, 1) := by decide +kernel
theorem dX10_seen_16 : decode cX10_seen 16 = .ok (.invokevirtual 143, 3) := by decide +kernel
theorem dX10_seen_19 : decode cX10_seen 19 = .ok (.ifCond .ne 5, 3) := by decide +kernel
theorem dX10_seen_22 : decode cX10_seen 22 = .ok (.iconst (-1), 1) := by decide +kernel
theorem dX10_seen_23 : decode cX10_seen 23 = .ok (.ireturn, 1) := by decide +kernel
set_option maxRecDepth 20000 in
theorem ggX10_untell_X6_takeBack : GoodIn wsX10_untell wsX6_takeBack := goodIn_r _ [6, 7, 8, 9, 28, 29, 30, 31, 32, 33, 34] (by decide +kernel) (by decide +kernel)
set_option maxRecDepth 20000 in
theorem gX10_untell_X6_takeBack : GoodIn wsX10_untell (wsV RX10 308 RX6 yX6_takeBack wsX6_takeBack) := goodIn_app (goodIn_of _ (by decide +kernel)) ggX10_untell_X6_takeBack
theorem dX10_untell_0 : decode cX10_untell 0 = .ok (.aload_n 0, 1) := by decide +kernel
theorem dX10_untell_1 : decode cX10_untell 1 = .ok (.getfield 81, 3) := by decide +kernel
theorem dX10_untell_4 : decode cX10_untell 4 = .ok (.iload_n 1, 1) := by decide +kernel
theorem dX10_untell_5 : decode cX10_untell 5 = .ok (.invokevirtual 308, 3) := by decide +kernel
theorem dX10_untell_8 : decode cX10_untell 8 = .ok (.ireturn, 1) := by decide +kernel
theorem dX10_later_0 : decode cX10_later 0 = .ok (.iload_n 1, 1) := by decide +kernel
theorem dX10_later_1 : decode cX10_later 1 = .ok (.ifCond .lt 25, 3) := by decide +kernel
theorem dX10_later_4 : decode cX10_later 4 = .ok (.iload_n 1, 1) := by decide +kernel
theorem dX10_later_5 : decode cX10_later 5 = .ok (.sipush 1000, 3) := by decide +kernel
theorem dX10_later_8 : decode cX10_later 8 = .ok (.if_icmp .gt 18, 3) := by decide +kernel
theorem dX10_later_11 : decode cX10_later 11 = .ok (.aload_n 0, 1) := by decide +kernel
theorem dX10_later_12 : decode cX10_later 12 = .ok (.getfield 81, 3) := by decide +kernel
theorem dX10_later_15 : decode cX10_later 15 = .ok (.getfield 310, 3) := by decide +kernel
theorem dX10_later_18 : decode cX10_later 18 = .ok (.iload_n 1, 1) := by decide +kernel
theorem dX10_later_19 : decode cX10_later 19 = .ok (.iadd, 1) := by decide +kernel
theorem dX10_later_20 : decode cX10_later 20 = .ok (.ldc_w 313, 3) := by decide +kernel
theorem dX10_later_23 : decode cX10_later 23 = .ok (.if_icmp .le 5, 3) := by decide +kernel
theorem dX10_later_26 : decode cX10_later 26 = .ok (.iconst (-1), 1) := by decide +kernel
theorem dX10_later_27 : decode cX10_later 27 = .ok (.ireturn, 1) := by decide +kernel
theorem dX10_later_28 : decode cX10_later 28 = .ok (.aload_n 0, 1) := by decide +kernel
theorem dX10_later_29 : decode cX10_later 29 = .ok (.getfield 81, 3) := by decide +kernel
theorem dX10_later_32 : decode cX10_later 32 = .ok (.dup, 1) := by decide +kernel
theorem dX10_later_33 : decode cX10_later 33 = .ok (.getfield 310, 3) := by decide +kernel
theorem dX10_later_36 : decode cX10_later 36 = .ok (.iload_n 1, 1) := by decide +kernel
theorem dX10_later_37 : decode cX10_later 37 = .ok (.iadd, 1) := by decide +kernel
theorem dX10_later_38 : decode cX10_later 38 = .ok (.putfield 310, 3) := by decide +kernel
theorem dX10_later_41 : decode cX10_later 41 = .ok (.aload_n 0, 1) := by decide +kernel
theorem dX10_later_42 : decode cX10_later 42 = .ok (.getfield 81, 3) := by decide +kernel
theorem dX10_later_45 : decode cX10_later 45 = .ok (.getfield 310, 3) := by decide +kernel
theorem dX10_later_48 : decode cX10_later 48 = .ok (.ireturn, 1) := by decide +kernel
set_option maxRecDepth 20000 in
theorem ggX10_orders_X10_growWhole : GoodIn wsX10_orders wsX10_growWhole := goodIn_r _ [9, 10, 11, 12, 13, 14, 15, 16, 17, 18, 19, 20, 21, 22, 23, 24, 25, 26, 27, 28, 29, 30, 31, 32, 33, 34, 35, 36, 37, 38, 39, 40, 41, 42, 43, 44, 45, 46, 47, 48, 49, 50, 51, 52, 53, 54, 55, 56, 57, 58, 59, 60, 61, 62, 63, 64, 65, 66, 67, 68, 69, 70, 71, 72, 73, 74, 75, 76, 77, 78, 79, 80, 81, 82, 83, 84, 85, 86, 87, 88, 89, 90, 91, 92, 93, 94, 95, 96, 97, 98, 99, 177, 178, 179, 180, 181, 182, 183, 184, 185, 186, 187, 188, 189, 190, 191, 192, 193, 194, 204, 205, 206, 207, 208, 209, 210, 211, 212, 166, 167, 168, 169, 170, 171, 172, 173, 174, 175, 176, 213, 214, 215, 216, 217, 218, 219, 220, 221, 222, 223, 224, 225, 226, 227, 228, 229, 230] (by decide +kernel) (by decide +kernel)
set_option maxRecDepth 20000 in
theorem gX10_orders_X10_growWhole : GoodIn wsX10_orders (wsV RX10 276 RX10 yX10_growWhole wsX10_growWhole) := goodIn_app (goodIn_of _ (by decide +kernel)) ggX10_orders_X10_growWhole
set_option maxRecDepth 20000 in
theorem ggX10_orders_X9_hasCharters : GoodIn wsX10_orders wsX9_hasCharters := goodIn_r _ [103, 26, 27, 166, 167, 168, 169, 170, 171, 172, 173, 174, 175, 176] (by decide +kernel) (by decide +kernel)
set_option maxRecDepth 20000 in
theorem gX10_orders_X9_hasCharters : GoodIn wsX10_orders (wsV RX10 217 RX9 yX9_hasCharters wsX9_hasCharters) := goodIn_app (goodIn_of _ (by decide +kernel)) ggX10_orders_X9_hasCharters
theorem dX10_orders_0 : decode cX10_orders 0 = .ok (.aload_n 0, 1) := by decide +kernel
theorem dX10_orders_1 : decode cX10_orders 1 = .ok (.invokevirtual 276, 3) := by decide +kernel
theorem dX10_orders_4 : decode cX10_orders 4 = .ok (.astore_n 2, 1) := by decide +kernel
theorem dX10_orders_5 : decode cX10_orders 5 = .ok (.aload_n 2, 1) := by decide +kernel
theorem dX10_orders_6 : decode cX10_orders 6 = .ok (.getfield 279, 3) := by decide +kernel
theorem dX10_orders_9 : decode cX10_orders 9 = .ok (.ifCond .eq 6, 3) := by decide +kernel
theorem dX10_orders_15 : decode cX10_orders 15 = .ok (.aload_n 2, 1) := by decide +kernel
theorem dX10_orders_16 : decode cX10_orders 16 = .ok (.invokevirtual 217, 3) := by decide +kernel
theorem dX10_orders_19 : decode cX10_orders 19 = .ok (.ifCond .ne 5, 3) := by decide +kernel
theorem dX10_orders_22 : decode cX10_orders 22 = .ok (.iconst 0, 1) := by decide +kernel
theorem dX10_orders_23 : decode cX10_orders 23 = .ok (.ireturn, 1) := by decide +kernel
set_option maxRecDepth 20000 in
theorem ggX10_image_X1_keep : GoodIn wsX10_image wsX1_keep := goodIn_r _ [8, 9, 10, 11, 12, 13, 14, 15, 16, 17, 18, 19, 47, 48, 49, 50, 38, 39, 40, 41, 42, 43, 44, 45, 46] (by decide +kernel) (by decide +kernel)
set_option maxRecDepth 20000 in
theorem gX10_image_X1_keep : GoodIn wsX10_image (wsV RX10 318 RX1 yX1_keep wsX1_keep) := goodIn_app (goodIn_of _ (by decide +kernel)) ggX10_image_X1_keep
theorem dX10_image_0 : decode cX10_image 0 = .ok (.iload_n 1, 1) := by decide +kernel
theorem dX10_image_1 : decode cX10_image 1 = .ok (.ifCond .lt 8, 3) := by decide +kernel
theorem dX10_image_4 : decode cX10_image 4 = .ok (.iload_n 1, 1) := by decide +kernel
theorem dX10_image_5 : decode cX10_image 5 = .ok (.iconst 3, 1) := by decide +kernel
theorem dX10_image_6 : decode cX10_image 6 = .ok (.if_icmp .lt 5, 3) := by decide +kernel
theorem dX10_image_9 : decode cX10_image 9 = .ok (.iconst (-1), 1) := by decide +kernel
theorem dX10_image_10 : decode cX10_image 10 = .ok (.ireturn, 1) := by decide +kernel
theorem dX10_image_11 : decode cX10_image 11 = .ok (.aload_n 0, 1) := by decide +kernel
theorem dX10_image_12 : decode cX10_image 12 = .ok (.getfield 40, 3) := by decide +kernel
theorem dX10_image_15 : decode cX10_image 15 = .ok (.iload_n 1, 1) := by decide +kernel
theorem dX10_image_16 : decode cX10_image 16 = .ok (.aaload, 1) := by decide +kernel
theorem dX10_image_17 : decode cX10_image 17 = .ok (.aload_n 0, 1) := by decide +kernel
theorem dX10_image_18 : decode cX10_image 18 = .ok (.getfield 33, 3) := by decide +kernel
theorem dX10_image_21 : decode cX10_image 21 = .ok (.invokevirtual 318, 3) := by decide +kernel
theorem dX10_image_24 : decode cX10_image 24 = .ok (.aload_n 0, 1) := by decide +kernel
theorem dX10_image_25 : decode cX10_image 25 = .ok (.getfield 33, 3) := by decide +kernel
theorem dX10_image_28 : decode cX10_image 28 = .ok (.getfield 177, 3) := by decide +kernel
theorem dX10_image_31 : decode cX10_image 31 = .ok (.ireturn, 1) := by decide +kernel
theorem dX10_back_0 : decode cX10_back 0 = .ok (.iload_n 1, 1) := by decide +kernel
theorem dX10_back_1 : decode cX10_back 1 = .ok (.ifCond .lt 20, 3) := by decide +kernel
theorem dX10_back_4 : decode cX10_back 4 = .ok (.iload_n 1, 1) := by decide +kernel
theorem dX10_back_5 : decode cX10_back 5 = .ok (.iconst 3, 1) := by decide +kernel
theorem dX10_back_6 : decode cX10_back 6 = .ok (.if_icmp .ge 15, 3) := by decide +kernel
theorem dX10_back_9 : decode cX10_back 9 = .ok (.aload_n 0, 1) := by decide +kernel
theorem dX10_back_10 : decode cX10_back 10 = .ok (.getfield 40, 3) := by decide +kernel
theorem dX10_back_13 : decode cX10_back 13 = .ok (.iload_n 1, 1) := by decide +kernel
theorem dX10_back_14 : decode cX10_back 14 = .ok (.aaload, 1) := by decide +kernel
theorem dX10_back_15 : decode cX10_back 15 = .ok (.getfield 113, 3) := by decide +kernel
theorem dX10_back_18 : decode cX10_back 18 = .ok (.ifCond .ne 5, 3) := by decide +kernel
theorem dX10_back_21 : decode cX10_back 21 = .ok (.iconst (-1), 1) := by decide +kernel
theorem dX10_back_22 : decode cX10_back 22 = .ok (.ireturn, 1) := by decide +kernel
theorem dX10_about_0 : decode cX10_about 0 = .ok (.iload_n 1, 1) := by decide +kernel
theorem dX10_about_1 : decode cX10_about 1 = .ok (.tableswitch 161 0 11 #[63, 71, 79, 87, 95, 103, 111, 119, 135, 143, 151, 156], 63) := by decide +kernel
theorem dX10_about_64 : decode cX10_about 64 = .ok (.aload_n 0, 1) := by decide +kernel
theorem dX10_about_65 : decode cX10_about 65 = .ok (.getfield 23, 3) := by decide +kernel
theorem dX10_about_68 : decode cX10_about 68 = .ok (.getfield 107, 3) := by decide +kernel
theorem dX10_about_71 : decode cX10_about 71 = .ok (.ireturn, 1) := by decide +kernel
theorem dX10_about_72 : decode cX10_about 72 = .ok (.aload_n 0, 1) := by decide +kernel
theorem dX10_about_73 : decode cX10_about 73 = .ok (.getfield 23, 3) := by decide +kernel
theorem dX10_about_76 : decode cX10_about 76 = .ok (.getfield 325, 3) := by decide +kernel
theorem dX10_about_79 : decode cX10_about 79 = .ok (.ireturn, 1) := by decide +kernel
theorem dX10_about_80 : decode cX10_about 80 = .ok (.aload_n 0, 1) := by decide +kernel
theorem dX10_about_81 : decode cX10_about 81 = .ok (.getfield 23, 3) := by decide +kernel
theorem dX10_about_84 : decode cX10_about 84 = .ok (.getfield 273, 3) := by decide +kernel
theorem dX10_about_87 : decode cX10_about 87 = .ok (.ireturn, 1) := by decide +kernel
theorem dX10_about_88 : decode cX10_about 88 = .ok (.aload_n 0, 1) := by decide +kernel
theorem dX10_about_89 : decode cX10_about 89 = .ok (.getfield 23, 3) := by decide +kernel
theorem dX10_about_92 : decode cX10_about 92 = .ok (.getfield 328, 3) := by decide +kernel
theorem dX10_about_95 : decode cX10_about 95 = .ok (.ireturn, 1) := by decide +kernel
theorem dX10_about_96 : decode cX10_about 96 = .ok (.aload_n 0, 1) := by decide +kernel
theorem dX10_about_97 : decode cX10_about 97 = .ok (.getfield 23, 3) := by decide +kernel
theorem dX10_about_100 : decode cX10_about 100 = .ok (.getfield 238, 3) := by decide +kernel
theorem dX10_about_103 : decode cX10_about 103 = .ok (.ireturn, 1) := by decide +kernel
theorem dX10_about_104 : decode cX10_about 104 = .ok (.aload_n 0, 1) := by decide +kernel
theorem dX10_about_105 : decode cX10_about 105 = .ok (.getfield 33, 3) := by decide +kernel
theorem dX10_about_108 : decode cX10_about 108 = .ok (.getfield 177, 3) := by decide +kernel
theorem dX10_about_111 : decode cX10_about 111 = .ok (.ireturn, 1) := by decide +kernel
theorem dX10_about_112 : decode cX10_about 112 = .ok (.aload_n 0, 1) := by decide +kernel
theorem dX10_about_113 : decode cX10_about 113 = .ok (.getfield 33, 3) := by decide +kernel
theorem dX10_about_116 : decode cX10_about 116 = .ok (.getfield 331, 3) := by decide +kernel
theorem dX10_about_119 : decode cX10_about 119 = .ok (.ireturn, 1) := by decide +kernel
theorem dX10_about_120 : decode cX10_about 120 = .ok (.aload_n 0, 1) := by decide +kernel
theorem dX10_about_121 : decode cX10_about 121 = .ok (.getfield 33, 3) := by decide +kernel
theorem dX10_about_124 : decode cX10_about 124 = .ok (.getfield 334, 3) := by decide +kernel
theorem dX10_about_127 : decode cX10_about 127 = .ok (.aload_n 0, 1) := by decide +kernel
theorem dX10_about_128 : decode cX10_about 128 = .ok (.getfield 33, 3) := by decide +kernel
theorem dX10_about_131 : decode cX10_about 131 = .ok (.getfield 331, 3) := by decide +kernel
theorem dX10_about_134 : decode cX10_about 134 = .ok (.isub, 1) := by decide +kernel
theorem dX10_about_135 : decode cX10_about 135 = .ok (.ireturn, 1) := by decide +kernel
theorem dX10_about_136 : decode cX10_about 136 = .ok (.aload_n 0, 1) := by decide +kernel
theorem dX10_about_137 : decode cX10_about 137 = .ok (.getfield 81, 3) := by decide +kernel
theorem dX10_about_140 : decode cX10_about 140 = .ok (.getfield 125, 3) := by decide +kernel
theorem dX10_about_143 : decode cX10_about 143 = .ok (.ireturn, 1) := by decide +kernel
theorem dX10_about_144 : decode cX10_about 144 = .ok (.aload_n 0, 1) := by decide +kernel
theorem dX10_about_145 : decode cX10_about 145 = .ok (.getfield 81, 3) := by decide +kernel
theorem dX10_about_148 : decode cX10_about 148 = .ok (.getfield 310, 3) := by decide +kernel
theorem dX10_about_151 : decode cX10_about 151 = .ok (.ireturn, 1) := by decide +kernel
theorem dX10_about_152 : decode cX10_about 152 = .ok (.aload_n 0, 1) := by decide +kernel
theorem dX10_about_153 : decode cX10_about 153 = .ok (.getfield 92, 3) := by decide +kernel
theorem dX10_about_156 : decode cX10_about 156 = .ok (.ireturn, 1) := by decide +kernel
theorem dX10_about_157 : decode cX10_about 157 = .ok (.aload_n 0, 1) := by decide +kernel
theorem dX10_about_158 : decode cX10_about 158 = .ok (.getfield 128, 3) := by decide +kernel
theorem dX10_about_161 : decode cX10_about 161 = .ok (.ireturn, 1) := by decide +kernel
theorem dX10_about_162 : decode cX10_about 162 = .ok (.iconst (-1), 1) := by decide +kernel
theorem dX10_about_163 : decode cX10_about 163 = .ok (.ireturn, 1) := by decide +kernel
set_option maxRecDepth 20000 in
theorem ggX11_init_X11_clearBank : GoodIn wsX11_init wsX11_clearBank := goodIn_r _ [60, 9, 61, 10, 11, 12, 13, 14, 24, 23, 74, 75, 76, 77, 78, 79, 80, 81, 82, 83, 84, 85, 86, 87, 88, 89, 90, 91, 92, 93, 94, 95, 96, 97, 98, 99, 100, 101, 102, 103, 104, 105, 106, 107, 108, 109, 110, 111, 112, 113, 114, 115, 116, 117, 118, 119, 120, 121, 122, 123, 124, 125, 126, 127, 128, 129, 130, 131, 132, 133, 134, 135, 136, 137, 138, 139, 140, 141, 142, 143, 144] (by decide +kernel) (by decide +kernel)
set_option maxRecDepth 20000 in
theorem gX11_init_X11_clearBank : GoodIn wsX11_init (wsV RX11 158 RX11 yX11_clearBank wsX11_clearBank) := goodIn_app (goodIn_of _ (by decide +kernel)) ggX11_init_X11_clearBank
set_option maxRecDepth 20000 in
theorem ggX11_init_X11_begin : GoodIn wsX11_init wsX11_begin := goodIn_r _ [65, 66, 67, 68, 35, 69, 70, 71, 59, 72, 14, 73, 15, 74, 75, 76, 77, 78, 79, 80, 81, 82, 83, 84, 85, 86, 87, 88, 89, 90, 91, 92, 93, 94, 95, 96, 97, 98, 99, 100, 101, 102, 103, 104, 105, 106, 107, 108, 109, 110, 111, 112, 113, 114, 115, 116, 117, 118, 119, 120, 121, 122, 123, 124, 125, 126, 127, 128, 129, 130, 131, 132, 133, 134, 135, 136, 137, 138, 139, 140, 141, 142, 143, 144] (by decide +kernel) (by decide +kernel)
set_option maxRecDepth 20000 in
theorem gX11_init_X11_begin : GoodIn wsX11_init (wsV RX11 161 RX11 yX11_begin wsX11_begin) := goodIn_app (goodIn_of _ (by decide +kernel)) ggX11_init_X11_begin
theorem dX11_init_0 : decode cX11_init 0 = .ok (.aload_n 0, 1) := by decide +kernel
theorem dX11_init_1 : decode cX11_init 1 = .ok (.invokespecial 1, 3) := by decide +kernel
theorem dX11_init_4 : decode cX11_init 4 = .ok (.aload_n 0, 1) := by decide +kernel
theorem dX11_init_5 : decode cX11_init 5 = .ok (.sipush 1620, 3) := by decide +kernel
theorem dX11_init_8 : decode cX11_init 8 = .ok (.newarray .byte, 2) := by decide +kernel
theorem dX11_init_10 : decode cX11_init 10 = .ok (.putfield 7, 3) := by decide +kernel
theorem dX11_init_13 : decode cX11_init 13 = .ok (.aload_n 0, 1) := by decide +kernel
theorem dX11_init_14 : decode cX11_init 14 = .ok (.sipush 1600, 3) := by decide +kernel
theorem dX11_init_17 : decode cX11_init 17 = .ok (.newarray .byte, 2) := by decide +kernel
theorem dX11_init_19 : decode cX11_init 19 = .ok (.putfield 13, 3) := by decide +kernel
theorem dX11_init_22 : decode cX11_init 22 = .ok (.aload_n 0, 1) := by decide +kernel
theorem dX11_init_23 : decode cX11_init 23 = .ok (.iconst (-1), 1) := by decide +kernel
theorem dX11_init_24 : decode cX11_init 24 = .ok (.putfield 16, 3) := by decide +kernel
theorem dX11_init_27 : decode cX11_init 27 = .ok (.aload_n 0, 1) := by decide +kernel
theorem dX11_init_28 : decode cX11_init 28 = .ok (.iconst 2, 1) := by decide +kernel
theorem dX11_init_29 : decode cX11_init 29 = .ok (.newarray .int, 2) := by decide +kernel
theorem dX11_init_31 : decode cX11_init 31 = .ok (.putfield 20, 3) := by decide +kernel
