set_option maxRecDepth 20000 in
theorem ggX0_init_J7_fill_53178 : GoodIn wsX0_init wsJ7_fill_53178 := goodIn_r _ [15] (by decide +kernel) (by decide +kernel)
set_option maxRecDepth 20000 in
theorem gX0_init_J7_fill_53178 : GoodIn wsX0_init (va_wsS RX0 31 yJ7_fill_53178 wsJ7_fill_53178) := goodIn_app (goodIn_of _ (by decide +kernel)) ggX0_init_J7_fill_53178
theorem dX0_init_0 : decode cX0_init 0 = .ok (.aload_n 0, 1) := by decide +kernel
theorem dX0_init_1 : decode cX0_init 1 = .ok (.invokespecial 3, 3) := by decide +kernel
theorem dX0_init_4 : decode cX0_init 4 = .ok (.aload_n 0, 1) := by decide +kernel
theorem dX0_init_5 : decode cX0_init 5 = .ok (.bipush 6, 2) := by decide +kernel
theorem dX0_init_7 : decode cX0_init 7 = .ok (.newarray .int, 2) := by decide +kernel
theorem dX0_init_9 : decode cX0_init 9 = .ok (.putfield 9, 3) := by decide +kernel
theorem dX0_init_12 : decode cX0_init 12 = .ok (.aload_n 0, 1) := by decide +kernel
theorem dX0_init_13 : decode cX0_init 13 = .ok (.bipush 6, 2) := by decide +kernel
theorem dX0_init_15 : decode cX0_init 15 = .ok (.newarray .int, 2) := by decide +kernel
theorem dX0_init_17 : decode cX0_init 17 = .ok (.putfield 15, 3) := by decide +kernel
theorem dX0_init_20 : decode cX0_init 20 = .ok (.aload_n 0, 1) := by decide +kernel
theorem dX0_init_21 : decode cX0_init 21 = .ok (.bipush 40, 2) := by decide +kernel
theorem dX0_init_23 : decode cX0_init 23 = .ok (.newarray .boolean, 2) := by decide +kernel
theorem dX0_init_25 : decode cX0_init 25 = .ok (.putfield 18, 3) := by decide +kernel
theorem dX0_init_28 : decode cX0_init 28 = .ok (.aload_n 0, 1) := by decide +kernel
theorem dX0_init_29 : decode cX0_init 29 = .ok (.bipush 40, 2) := by decide +kernel
theorem dX0_init_31 : decode cX0_init 31 = .ok (.newarray .int, 2) := by decide +kernel
theorem dX0_init_33 : decode cX0_init 33 = .ok (.putfield 22, 3) := by decide +kernel
theorem dX0_init_36 : decode cX0_init 36 = .ok (.aload_n 0, 1) := by decide +kernel
theorem dX0_init_37 : decode cX0_init 37 = .ok (.bipush 40, 2) := by decide +kernel
theorem dX0_init_39 : decode cX0_init 39 = .ok (.newarray .int, 2) := by decide +kernel
theorem dX0_init_41 : decode cX0_init 41 = .ok (.putfield 25, 3) := by decide +kernel
theorem dX0_init_44 : decode cX0_init 44 = .ok (.aload_n 0, 1) := by decide +kernel
theorem dX0_init_45 : decode cX0_init 45 = .ok (.bipush 40, 2) := by decide +kernel
theorem dX0_init_47 : decode cX0_init 47 = .ok (.newarray .int, 2) := by decide +kernel
theorem dX0_init_49 : decode cX0_init 49 = .ok (.putfield 28, 3) := by decide +kernel
theorem dX0_init_52 : decode cX0_init 52 = .ok (.aload_n 0, 1) := by decide +kernel
theorem dX0_init_53 : decode cX0_init 53 = .ok (.getfield 15, 3) := by decide +kernel
theorem dX0_init_56 : decode cX0_init 56 = .ok (.iconst (-1), 1) := by decide +kernel
theorem dX0_init_57 : decode cX0_init 57 = .ok (.invokestatic 31, 3) := by decide +kernel
theorem dX0_init_60 : decode cX0_init 60 = .ok (.return_, 1) := by decide +kernel
set_option maxRecDepth 20000 in
theorem ggX0_empty_J7_fill_53178 : GoodIn wsX0_empty wsJ7_fill_53178 := goodIn_r _ [6] (by decide +kernel) (by decide +kernel)
set_option maxRecDepth 20000 in
theorem gX0_empty_J7_fill_53178 : GoodIn wsX0_empty (va_wsS RX0 31 yJ7_fill_53178 wsJ7_fill_53178) := goodIn_app (goodIn_of _ (by decide +kernel)) ggX0_empty_J7_fill_53178
set_option maxRecDepth 20000 in
theorem ggX0_empty_X0_forgetActs : GoodIn wsX0_empty wsX0_forgetActs := goodIn_r _ [11, 12, 13, 14, 15, 16, 17, 18, 19, 20, 21, 22] (by decide +kernel) (by decide +kernel)
set_option maxRecDepth 20000 in
theorem gX0_empty_X0_forgetActs : GoodIn wsX0_empty (wsV RX0 41 RX0 yX0_forgetActs wsX0_forgetActs) := goodIn_app (goodIn_of _ (by decide +kernel)) ggX0_empty_X0_forgetActs
theorem dX0_empty_0 : decode cX0_empty 0 = .ok (.aload_n 0, 1) := by decide +kernel
theorem dX0_empty_1 : decode cX0_empty 1 = .ok (.iconst 0, 1) := by decide +kernel
theorem dX0_empty_2 : decode cX0_empty 2 = .ok (.putfield 37, 3) := by decide +kernel
theorem dX0_empty_5 : decode cX0_empty 5 = .ok (.aload_n 0, 1) := by decide +kernel
theorem dX0_empty_6 : decode cX0_empty 6 = .ok (.getfield 15, 3) := by decide +kernel
theorem dX0_empty_9 : decode cX0_empty 9 = .ok (.iconst (-1), 1) := by decide +kernel
theorem dX0_empty_10 : decode cX0_empty 10 = .ok (.invokestatic 31, 3) := by decide +kernel
theorem dX0_empty_13 : decode cX0_empty 13 = .ok (.aload_n 0, 1) := by decide +kernel
theorem dX0_empty_14 : decode cX0_empty 14 = .ok (.invokevirtual 41, 3) := by decide +kernel
theorem dX0_empty_17 : decode cX0_empty 17 = .ok (.return_, 1) := by decide +kernel
theorem dX0_forgetActs_0 : decode cX0_forgetActs 0 = .ok (.aload_n 0, 1) := by decide +kernel
theorem dX0_forgetActs_1 : decode cX0_forgetActs 1 = .ok (.iconst 0, 1) := by decide +kernel
theorem dX0_forgetActs_2 : decode cX0_forgetActs 2 = .ok (.putfield 44, 3) := by decide +kernel
theorem dX0_forgetActs_5 : decode cX0_forgetActs 5 = .ok (.aload_n 0, 1) := by decide +kernel
theorem dX0_forgetActs_6 : decode cX0_forgetActs 6 = .ok (.iconst 0, 1) := by decide +kernel
theorem dX0_forgetActs_7 : decode cX0_forgetActs 7 = .ok (.putfield 47, 3) := by decide +kernel
theorem dX0_forgetActs_10 : decode cX0_forgetActs 10 = .ok (.return_, 1) := by decide +kernel
set_option maxRecDepth 20000 in
theorem ggX0_putSale_X0_note : GoodIn wsX0_putSale wsX0_note := goodIn_r _ [6, 7, 8, 9, 10, 11, 12, 13, 14, 15, 5, 16, 23, 24, 25, 26, 27, 28, 29, 30, 31] (by decide +kernel) (by decide +kernel)
set_option maxRecDepth 20000 in
theorem gX0_putSale_X0_note : GoodIn wsX0_putSale (wsV RX0 50 RX0 yX0_note wsX0_note) := goodIn_app (goodIn_of _ (by decide +kernel)) ggX0_putSale_X0_note
set_option maxRecDepth 20000 in
theorem ggX0_putSale_X0_doAgain : GoodIn wsX0_putSale wsX0_doAgain := goodIn_r _ [20, 7, 12, 9, 8, 1, 11, 21, 22, 23, 24, 25, 26, 27, 28, 29, 30, 31] (by decide +kernel) (by decide +kernel)
set_option maxRecDepth 20000 in
theorem gX0_putSale_X0_doAgain : GoodIn wsX0_putSale (wsV RX0 54 RX0 yX0_doAgain wsX0_doAgain) := goodIn_app (goodIn_of _ (by decide +kernel)) ggX0_putSale_X0_doAgain
theorem dX0_putSale_0 : decode cX0_putSale 0 = .ok (.aload_n 0, 1) := by decide +kernel
theorem dX0_putSale_1 : decode cX0_putSale 1 = .ok (.iconst 1, 1) := by decide +kernel
theorem dX0_putSale_2 : decode cX0_putSale 2 = .ok (.iload_n 1, 1) := by decide +kernel
theorem dX0_putSale_3 : decode cX0_putSale 3 = .ok (.aload_n 0, 1) := by decide +kernel
theorem dX0_putSale_4 : decode cX0_putSale 4 = .ok (.getfield 15, 3) := by decide +kernel
theorem dX0_putSale_7 : decode cX0_putSale 7 = .ok (.iload_n 1, 1) := by decide +kernel
theorem dX0_putSale_8 : decode cX0_putSale 8 = .ok (.iaload, 1) := by decide +kernel
theorem dX0_putSale_9 : decode cX0_putSale 9 = .ok (.iload_n 2, 1) := by decide +kernel
theorem dX0_putSale_10 : decode cX0_putSale 10 = .ok (.invokevirtual 50, 3) := by decide +kernel
theorem dX0_putSale_13 : decode cX0_putSale 13 = .ok (.aload_n 0, 1) := by decide +kernel
theorem dX0_putSale_14 : decode cX0_putSale 14 = .ok (.invokevirtual 54, 3) := by decide +kernel
theorem dX0_putSale_17 : decode cX0_putSale 17 = .ok (.pop, 1) := by decide +kernel
theorem dX0_putSale_18 : decode cX0_putSale 18 = .ok (.return_, 1) := by decide +kernel
theorem dX0_note_0 : decode cX0_note 0 = .ok (.aload_n 0, 1) := by decide +kernel
theorem dX0_note_1 : decode cX0_note 1 = .ok (.getfield 44, 3) := by decide +kernel
theorem dX0_note_4 : decode cX0_note 4 = .ok (.bipush 40, 2) := by decide +kernel
theorem dX0_note_6 : decode cX0_note 6 = .ok (.if_icmp .lt 7, 3) := by decide +kernel
theorem dX0_note_13 : decode cX0_note 13 = .ok (.aload_n 0, 1) := by decide +kernel
theorem dX0_note_14 : decode cX0_note 14 = .ok (.getfield 18, 3) := by decide +kernel
theorem dX0_note_17 : decode cX0_note 17 = .ok (.aload_n 0, 1) := by decide +kernel
theorem dX0_note_18 : decode cX0_note 18 = .ok (.getfield 44, 3) := by decide +kernel
theorem dX0_note_21 : decode cX0_note 21 = .ok (.iload_n 1, 1) := by decide +kernel
theorem dX0_note_22 : decode cX0_note 22 = .ok (.bastore, 1) := by decide +kernel
theorem dX0_note_23 : decode cX0_note 23 = .ok (.aload_n 0, 1) := by decide +kernel
theorem dX0_note_24 : decode cX0_note 24 = .ok (.getfield 22, 3) := by decide +kernel
theorem dX0_note_27 : decode cX0_note 27 = .ok (.aload_n 0, 1) := by decide +kernel
theorem dX0_note_28 : decode cX0_note 28 = .ok (.getfield 44, 3) := by decide +kernel
theorem dX0_note_31 : decode cX0_note 31 = .ok (.iload_n 2, 1) := by decide +kernel
theorem dX0_note_32 : decode cX0_note 32 = .ok (.iastore, 1) := by decide +kernel
theorem dX0_note_33 : decode cX0_note 33 = .ok (.aload_n 0, 1) := by decide +kernel
theorem dX0_note_34 : decode cX0_note 34 = .ok (.getfield 25, 3) := by decide +kernel
theorem dX0_note_37 : decode cX0_note 37 = .ok (.aload_n 0, 1) := by decide +kernel
theorem dX0_note_38 : decode cX0_note 38 = .ok (.getfield 44, 3) := by decide +kernel
theorem dX0_note_41 : decode cX0_note 41 = .ok (.iload_n 3, 1) := by decide +kernel
theorem dX0_note_42 : decode cX0_note 42 = .ok (.iastore, 1) := by decide +kernel
theorem dX0_note_43 : decode cX0_note 43 = .ok (.aload_n 0, 1) := by decide +kernel
theorem dX0_note_44 : decode cX0_note 44 = .ok (.getfield 28, 3) := by decide +kernel
theorem dX0_note_47 : decode cX0_note 47 = .ok (.aload_n 0, 1) := by decide +kernel
theorem dX0_note_48 : decode cX0_note 48 = .ok (.getfield 44, 3) := by decide +kernel
theorem dX0_note_51 : decode cX0_note 51 = .ok (.iload 4, 2) := by decide +kernel
theorem dX0_note_53 : decode cX0_note 53 = .ok (.iastore, 1) := by decide +kernel
theorem dX0_note_54 : decode cX0_note 54 = .ok (.aload_n 0, 1) := by decide +kernel
theorem dX0_note_55 : decode cX0_note 55 = .ok (.aload_n 0, 1) := by decide +kernel
theorem dX0_note_56 : decode cX0_note 56 = .ok (.getfield 44, 3) := by decide +kernel
theorem dX0_note_59 : decode cX0_note 59 = .ok (.iconst 1, 1) := by decide +kernel
theorem dX0_note_60 : decode cX0_note 60 = .ok (.iadd, 1) := by decide +kernel
theorem dX0_note_61 : decode cX0_note 61 = .ok (.putfield 47, 3) := by decide +kernel
theorem dX0_note_64 : decode cX0_note 64 = .ok (.return_, 1) := by decide +kernel
theorem dX0_takeBack_0 : decode cX0_takeBack 0 = .ok (.aload_n 0, 1) := by decide +kernel
theorem dX0_takeBack_1 : decode cX0_takeBack 1 = .ok (.getfield 44, 3) := by decide +kernel
theorem dX0_takeBack_4 : decode cX0_takeBack 4 = .ok (.ifCond .gt 5, 3) := by decide +kernel
theorem dX0_takeBack_7 : decode cX0_takeBack 7 = .ok (.iconst 0, 1) := by decide +kernel
theorem dX0_takeBack_8 : decode cX0_takeBack 8 = .ok (.ireturn, 1) := by decide +kernel
theorem dX0_doAgain_0 : decode cX0_doAgain 0 = .ok (.aload_n 0, 1) := by decide +kernel
theorem dX0_doAgain_1 : decode cX0_doAgain 1 = .ok (.getfield 44, 3) := by decide +kernel
theorem dX0_doAgain_4 : decode cX0_doAgain 4 = .ok (.aload_n 0, 1) := by decide +kernel
theorem dX0_doAgain_5 : decode cX0_doAgain 5 = .ok (.getfield 47, 3) := by decide +kernel
theorem dX0_doAgain_8 : decode cX0_doAgain 8 = .ok (.if_icmp .lt 5, 3) := by decide +kernel
theorem dX0_doAgain_11 : decode cX0_doAgain 11 = .ok (.iconst 0, 1) := by decide +kernel
theorem dX0_doAgain_12 : decode cX0_doAgain 12 = .ok (.ireturn, 1) := by decide +kernel
theorem dX0_doAgain_13 : decode cX0_doAgain 13 = .ok (.aload_n 0, 1) := by decide +kernel
theorem dX0_doAgain_14 : decode cX0_doAgain 14 = .ok (.getfield 22, 3) := by decide +kernel
theorem dX0_doAgain_17 : decode cX0_doAgain 17 = .ok (.aload_n 0, 1) := by decide +kernel
theorem dX0_doAgain_18 : decode cX0_doAgain 18 = .ok (.getfield 44, 3) := by decide +kernel
theorem dX0_doAgain_21 : decode cX0_doAgain 21 = .ok (.iaload, 1) := by decide +kernel
theorem dX0_doAgain_22 : decode cX0_doAgain 22 = .ok (.istore_n 1, 1) := by decide +kernel
theorem dX0_doAgain_23 : decode cX0_doAgain 23 = .ok (.aload_n 0, 1) := by decide +kernel
theorem dX0_doAgain_24 : decode cX0_doAgain 24 = .ok (.getfield 18, 3) := by decide +kernel
theorem dX0_doAgain_27 : decode cX0_doAgain 27 = .ok (.aload_n 0, 1) := by decide +kernel
theorem dX0_doAgain_28 : decode cX0_doAgain 28 = .ok (.getfield 44, 3) := by decide +kernel
theorem dX0_doAgain_31 : decode cX0_doAgain 31 = .ok (.baload, 1) := by decide +kernel
theorem dX0_doAgain_32 : decode cX0_doAgain 32 = .ok (.ifCond .eq 21, 3) := by decide +kernel
theorem dX0_doAgain_35 : decode cX0_doAgain 35 = .ok (.aload_n 0, 1) := by decide +kernel
theorem dX0_doAgain_36 : decode cX0_doAgain 36 = .ok (.getfield 15, 3) := by decide +kernel
theorem dX0_doAgain_39 : decode cX0_doAgain 39 = .ok (.iload_n 1, 1) := by decide +kernel
theorem dX0_doAgain_40 : decode cX0_doAgain 40 = .ok (.aload_n 0, 1) := by decide +kernel
theorem dX0_doAgain_41 : decode cX0_doAgain 41 = .ok (.getfield 28, 3) := by decide +kernel
theorem dX0_doAgain_44 : decode cX0_doAgain 44 = .ok (.aload_n 0, 1) := by decide +kernel
theorem dX0_doAgain_45 : decode cX0_doAgain 45 = .ok (.getfield 44, 3) := by decide +kernel
theorem dX0_doAgain_48 : decode cX0_doAgain 48 = .ok (.iaload, 1) := by decide +kernel
theorem dX0_doAgain_49 : decode cX0_doAgain 49 = .ok (.iastore, 1) := by decide +kernel
theorem dX0_doAgain_50 : decode cX0_doAgain 50 = .ok (.goto 25, 3) := by decide +kernel
theorem dX0_doAgain_75 : decode cX0_doAgain 75 = .ok (.aload_n 0, 1) := by decide +kernel
theorem dX0_doAgain_76 : decode cX0_doAgain 76 = .ok (.dup, 1) := by decide +kernel
theorem dX0_doAgain_77 : decode cX0_doAgain 77 = .ok (.getfield 44, 3) := by decide +kernel
theorem dX0_doAgain_80 : decode cX0_doAgain 80 = .ok (.iconst 1, 1) := by decide +kernel
theorem dX0_doAgain_81 : decode cX0_doAgain 81 = .ok (.iadd, 1) := by decide +kernel
theorem dX0_doAgain_82 : decode cX0_doAgain 82 = .ok (.putfield 44, 3) := by decide +kernel
theorem dX0_doAgain_85 : decode cX0_doAgain 85 = .ok (.iconst 1, 1) := by decide +kernel
theorem dX0_doAgain_86 : decode cX0_doAgain 86 = .ok (.ireturn, 1) := by decide +kernel
theorem dX1_init_0 : decode cX1_init 0 = .ok (.aload_n 0, 1) := by decide +kernel
theorem dX1_init_1 : decode cX1_init 1 = .ok (.invokespecial 3, 3) := by decide +kernel
theorem dX1_init_4 : decode cX1_init 4 = .ok (.aload_n 0, 1) := by decide +kernel
theorem dX1_init_5 : decode cX1_init 5 = .ok (.bipush 6, 2) := by decide +kernel
theorem dX1_init_7 : decode cX1_init 7 = .ok (.newarray .int, 2) := by decide +kernel
theorem dX1_init_9 : decode cX1_init 9 = .ok (.putfield 9, 3) := by decide +kernel
theorem dX1_init_12 : decode cX1_init 12 = .ok (.aload_n 0, 1) := by decide +kernel
theorem dX1_init_13 : decode cX1_init 13 = .ok (.bipush 6, 2) := by decide +kernel
theorem dX1_init_15 : decode cX1_init 15 = .ok (.newarray .int, 2) := by decide +kernel
theorem dX1_init_17 : decode cX1_init 17 = .ok (.putfield 15, 3) := by decide +kernel
theorem dX1_init_20 : decode cX1_init 20 = .ok (.return_, 1) := by decide +kernel
theorem dX1_keep_0 : decode cX1_keep 0 = .ok (.aload_n 0, 1) := by decide +kernel
theorem dX1_keep_1 : decode cX1_keep 1 = .ok (.iconst 1, 1) := by decide +kernel
theorem dX1_keep_2 : decode cX1_keep 2 = .ok (.putfield 18, 3) := by decide +kernel
theorem dX1_keep_5 : decode cX1_keep 5 = .ok (.aload_n 0, 1) := by decide +kernel
theorem dX1_keep_6 : decode cX1_keep 6 = .ok (.aload_n 1, 1) := by decide +kernel
theorem dX1_keep_7 : decode cX1_keep 7 = .ok (.getfield 22, 3) := by decide +kernel
theorem dX1_keep_10 : decode cX1_keep 10 = .ok (.putfield 28, 3) := by decide +kernel
theorem dX1_keep_13 : decode cX1_keep 13 = .ok (.aload_n 1, 1) := by decide +kernel
theorem dX1_keep_14 : decode cX1_keep 14 = .ok (.getfield 29, 3) := by decide +kernel
theorem dX1_keep_17 : decode cX1_keep 17 = .ok (.iconst 0, 1) := by decide +kernel
theorem dX1_keep_18 : decode cX1_keep 18 = .ok (.aload_n 0, 1) := by decide +kernel
theorem dX1_keep_19 : decode cX1_keep 19 = .ok (.getfield 9, 3) := by decide +kernel
theorem dX1_keep_22 : decode cX1_keep 22 = .ok (.iconst 0, 1) := by decide +kernel
theorem dX1_keep_23 : decode cX1_keep 23 = .ok (.bipush 6, 2) := by decide +kernel
theorem dX1_keep_25 : decode cX1_keep 25 = .ok (.invokestatic 30, 3) := by decide +kernel
theorem dX1_keep_28 : decode cX1_keep 28 = .ok (.aload_n 1, 1) := by decide +kernel
theorem dX1_keep_29 : decode cX1_keep 29 = .ok (.getfield 36, 3) := by decide +kernel
theorem dX1_keep_32 : decode cX1_keep 32 = .ok (.iconst 0, 1) := by decide +kernel
theorem dX1_keep_33 : decode cX1_keep 33 = .ok (.aload_n 0, 1) := by decide +kernel
theorem dX1_keep_34 : decode cX1_keep 34 = .ok (.getfield 15, 3) := by decide +kernel
theorem dX1_keep_37 : decode cX1_keep 37 = .ok (.iconst 0, 1) := by decide +kernel
theorem dX1_keep_38 : decode cX1_keep 38 = .ok (.bipush 6, 2) := by decide +kernel
theorem dX1_keep_40 : decode cX1_keep 40 = .ok (.invokestatic 30, 3) := by decide +kernel
theorem dX1_keep_43 : decode cX1_keep 43 = .ok (.return_, 1) := by decide +kernel
set_option maxRecDepth 20000 in
theorem ggX2_init_X8_init : GoodIn wsX2_init wsX8_init := goodIn_r _ [17, 18, 2, 3, 12, 19, 20, 21, 22, 23, 24, 6, 25, 26, 27, 28, 29, 30, 31, 32, 33, 34, 35, 36, 37, 38, 39, 40, 41, 42, 43, 44, 45, 46, 47, 48, 49, 50, 51, 52, 53, 54, 55, 56, 57, 58, 59, 60, 61, 62, 63, 64, 65, 66, 67, 68, 69, 70, 71, 72, 73, 74, 90, 91, 92, 93, 94, 95, 96, 97, 98, 99] (by decide +kernel) (by decide +kernel)
set_option maxRecDepth 20000 in
theorem gX2_init_X8_init_n11 : GoodIn wsX2_init (wsX8_init) := ggX2_init_X8_init
set_option maxRecDepth 20000 in
theorem ggX2_init_X4_init : GoodIn wsX2_init wsX4_init := goodIn_r _ [77, 78, 2, 3, 12, 79, 14, 80, 81, 82, 83, 84, 85, 86, 87, 88, 89, 104, 105, 106, 107, 108, 109, 110, 111, 112, 113, 114, 115, 116, 117, 118, 119] (by decide +kernel) (by decide +kernel)
set_option maxRecDepth 20000 in
theorem gX2_init_X4_init : GoodIn wsX2_init (wsX4_init) := ggX2_init_X4_init
theorem dX2_init_0 : decode cX2_init 0 = .ok (.aload_n 0, 1) := by decide +kernel
theorem dX2_init_1 : decode cX2_init 1 = .ok (.invokespecial 3, 3) := by decide +kernel
theorem dX2_init_4 : decode cX2_init 4 = .ok (.aload_n 0, 1) := by decide +kernel
theorem dX2_init_5 : decode cX2_init 5 = .ok (.new 9, 3) := by decide +kernel
theorem dX2_init_8 : decode cX2_init 8 = .ok (.dup, 1) := by decide +kernel
theorem dX2_init_9 : decode cX2_init 9 = .ok (.invokespecial 11, 3) := by decide +kernel
theorem dX2_init_12 : decode cX2_init 12 = .ok (.putfield 12, 3) := by decide +kernel
theorem dX2_init_15 : decode cX2_init 15 = .ok (.aload_n 0, 1) := by decide +kernel
theorem dX2_init_16 : decode cX2_init 16 = .ok (.new 18, 3) := by decide +kernel
theorem dX2_init_19 : decode cX2_init 19 = .ok (.dup, 1) := by decide +kernel
theorem dX2_init_20 : decode cX2_init 20 = .ok (.invokespecial 20, 3) := by decide +kernel
theorem dX2_init_23 : decode cX2_init 23 = .ok (.putfield 21, 3) := by decide +kernel
theorem dX2_init_26 : decode cX2_init 26 = .ok (.aload_n 0, 1) := by decide +kernel
theorem dX2_init_27 : decode cX2_init 27 = .ok (.bipush 96, 2) := by decide +kernel
theorem dX2_init_29 : decode cX2_init 29 = .ok (.newarray .long, 2) := by decide +kernel
theorem dX2_init_31 : decode cX2_init 31 = .ok (.putfield 25, 3) := by decide +kernel
theorem dX2_init_34 : decode cX2_init 34 = .ok (.aload_n 0, 1) := by decide +kernel
theorem dX2_init_35 : decode cX2_init 35 = .ok (.bipush 96, 2) := by decide +kernel
theorem dX2_init_37 : decode cX2_init 37 = .ok (.newarray .int, 2) := by decide +kernel
theorem dX2_init_39 : decode cX2_init 39 = .ok (.putfield 29, 3) := by decide +kernel
theorem dX2_init_42 : decode cX2_init 42 = .ok (.return_, 1) := by decide +kernel
set_option maxRecDepth 20000 in
theorem ggX2_readsInto_X4_empty : GoodIn wsX2_readsInto wsX4_empty := goodIn_r _ [9, 10, 11, 12, 13, 14, 15, 16, 17, 18, 19, 20, 21, 22, 23, 167, 168, 169, 170, 171, 172, 173, 174, 175, 176, 177, 178, 179, 180, 181, 182] (by decide +kernel) (by decide +kernel)
set_option maxRecDepth 20000 in
theorem gX2_readsInto_X4_empty : GoodIn wsX2_readsInto (wsV RX2 33 RX4 yX4_empty wsX4_empty) := goodIn_app (goodIn_of _ (by decide +kernel)) ggX2_readsInto_X4_empty
set_option maxRecDepth 20000 in
theorem ggX2_readsInto_X8_begin : GoodIn wsX2_readsInto wsX8_begin := goodIn_r _ [28, 29, 30, 31, 32, 33, 34, 35, 36, 37, 38, 39, 40, 27, 41, 42, 43, 44, 45, 46, 47, 48, 49, 50, 51, 52, 53, 54, 55, 56, 57, 58, 157, 158, 159, 160, 161, 162, 163, 164, 165, 166] (by decide +kernel) (by decide +kernel)
set_option maxRecDepth 20000 in
theorem gX2_readsInto_X8_begin : GoodIn wsX2_readsInto (wsV RX2 36 RX8 yX8_begin wsX8_begin) := goodIn_app (goodIn_of _ (by decide +kernel)) ggX2_readsInto_X8_begin
set_option maxRecDepth 20000 in
theorem ggX2_readsInto_X2_bindParts : GoodIn wsX2_readsInto wsX2_bindParts := goodIn_r _ [147, 1, 120, 122, 148, 149, 150, 62, 151, 131, 128, 2, 129, 130, 152, 82, 83, 84, 8, 85, 10, 86, 14, 87, 76, 56, 57, 27, 58, 36, 42, 37, 153, 154, 155, 156, 167, 168, 169, 170, 171, 172, 173, 174, 175, 176, 177, 178, 179, 180, 181, 182, 157, 158, 159, 160, 161, 162, 163, 164, 165, 166] (by decide +kernel) (by decide +kernel)
set_option maxRecDepth 20000 in
theorem gX2_readsInto_X2_bindParts : GoodIn wsX2_readsInto (wsV RX2 70 RX2 yX2_bindParts wsX2_bindParts) := goodIn_app (goodIn_of _ (by decide +kernel)) ggX2_readsInto_X2_bindParts
theorem dX2_readsInto_0 : decode cX2_readsInto 0 = .ok (.aload_n 0, 1) := by decide +kernel
theorem dX2_readsInto_1 : decode cX2_readsInto 1 = .ok (.aload_n 1, 1) := by decide +kernel
theorem dX2_readsInto_2 : decode cX2_readsInto 2 = .ok (.putfield 21, 3) := by decide +kernel
theorem dX2_readsInto_5 : decode cX2_readsInto 5 = .ok (.aload_n 0, 1) := by decide +kernel
theorem dX2_readsInto_6 : decode cX2_readsInto 6 = .ok (.getfield 21, 3) := by decide +kernel
theorem dX2_readsInto_9 : decode cX2_readsInto 9 = .ok (.invokevirtual 33, 3) := by decide +kernel
theorem dX2_readsInto_12 : decode cX2_readsInto 12 = .ok (.aload_n 0, 1) := by decide +kernel
theorem dX2_readsInto_13 : decode cX2_readsInto 13 = .ok (.getfield 12, 3) := by decide +kernel
theorem dX2_readsInto_16 : decode cX2_readsInto 16 = .ok (.aload_n 2, 1) := by decide +kernel
theorem dX2_readsInto_17 : decode cX2_readsInto 17 = .ok (.iload_n 3, 1) := by decide +kernel
theorem dX2_readsInto_18 : decode cX2_readsInto 18 = .ok (.invokevirtual 36, 3) := by decide +kernel
theorem dX2_readsInto_21 : decode cX2_readsInto 21 = .ok (.aload_n 0, 1) := by decide +kernel
theorem dX2_readsInto_22 : decode cX2_readsInto 22 = .ok (.getfield 12, 3) := by decide +kernel
theorem dX2_readsInto_25 : decode cX2_readsInto 25 = .ok (.getfield 40, 3) := by decide +kernel
theorem dX2_readsInto_28 : decode cX2_readsInto 28 = .ok (.ifCond .ne 7, 3) := by decide +kernel
theorem dX2_readsInto_31 : decode cX2_readsInto 31 = .ok (.iconst 1, 1) := by decide +kernel
theorem dX2_readsInto_32 : decode cX2_readsInto 32 = .ok (.goto 4, 3) := by decide +kernel
theorem dX2_readsInto_36 : decode cX2_readsInto 36 = .ok (.istore 4, 2) := by decide +kernel
theorem dX2_readsInto_38 : decode cX2_readsInto 38 = .ok (.iconst 0, 1) := by decide +kernel
theorem dX2_readsInto_39 : decode cX2_readsInto 39 = .ok (.istore 5, 2) := by decide +kernel
theorem dX2_readsInto_41 : decode cX2_readsInto 41 = .ok (.iload 5, 2) := by decide +kernel
theorem dX2_readsInto_43 : decode cX2_readsInto 43 = .ok (.sipush 1600, 3) := by decide +kernel
theorem dX2_readsInto_46 : decode cX2_readsInto 46 = .ok (.if_icmp .ge 143, 3) := by decide +kernel
theorem dX2_readsInto_49 : decode cX2_readsInto 49 = .ok (.iload 4, 2) := by decide +kernel
theorem dX2_readsInto_51 : decode cX2_readsInto 51 = .ok (.ifCond .eq 138, 3) := by decide +kernel
theorem dX2_readsInto_54 : decode cX2_readsInto 54 = .ok (.aload_n 0, 1) := by decide +kernel
theorem dX2_readsInto_55 : decode cX2_readsInto 55 = .ok (.getfield 12, 3) := by decide +kernel
theorem dX2_readsInto_58 : decode cX2_readsInto 58 = .ok (.getfield 44, 3) := by decide +kernel
theorem dX2_readsInto_61 : decode cX2_readsInto 61 = .ok (.ifCond .eq 128, 3) := by decide +kernel
theorem dX2_readsInto_189 : decode cX2_readsInto 189 = .ok (.iload 4, 2) := by decide +kernel
theorem dX2_readsInto_191 : decode cX2_readsInto 191 = .ok (.ifCond .eq 14, 3) := by decide +kernel
theorem dX2_readsInto_194 : decode cX2_readsInto 194 = .ok (.aload_n 0, 1) := by decide +kernel
theorem dX2_readsInto_195 : decode cX2_readsInto 195 = .ok (.invokevirtual 70, 3) := by decide +kernel
theorem dX2_readsInto_198 : decode cX2_readsInto 198 = .ok (.ifCond .eq 7, 3) := by decide +kernel
theorem dX2_readsInto_201 : decode cX2_readsInto 201 = .ok (.iconst 1, 1) := by decide +kernel
theorem dX2_readsInto_202 : decode cX2_readsInto 202 = .ok (.goto 4, 3) := by decide +kernel
theorem dX2_readsInto_206 : decode cX2_readsInto 206 = .ok (.ireturn, 1) := by decide +kernel
theorem dX2_bindParts_0 : decode cX2_bindParts 0 = .ok (.iconst 0, 1) := by decide +kernel
theorem dX2_bindParts_1 : decode cX2_bindParts 1 = .ok (.istore_n 1, 1) := by decide +kernel
theorem dX2_bindParts_2 : decode cX2_bindParts 2 = .ok (.iload_n 1, 1) := by decide +kernel
theorem dX2_bindParts_3 : decode cX2_bindParts 3 = .ok (.aload_n 0, 1) := by decide +kernel
theorem dX2_bindParts_4 : decode cX2_bindParts 4 = .ok (.getfield 21, 3) := by decide +kernel
theorem dX2_bindParts_7 : decode cX2_bindParts 7 = .ok (.getfield 132, 3) := by decide +kernel
theorem dX2_bindParts_10 : decode cX2_bindParts 10 = .ok (.if_icmp .ge 51, 3) := by decide +kernel
theorem dX2_bindParts_61 : decode cX2_bindParts 61 = .ok (.iconst 1, 1) := by decide +kernel
theorem dX2_bindParts_62 : decode cX2_bindParts 62 = .ok (.ireturn, 1) := by decide +kernel
theorem dX3_init_0 : decode cX3_init 0 = .ok (.aload_n 0, 1) := by decide +kernel
theorem dX3_init_1 : decode cX3_init 1 = .ok (.invokespecial 3, 3) := by decide +kernel
theorem dX3_init_4 : decode cX3_init 4 = .ok (.aload_n 0, 1) := by decide +kernel
theorem dX3_init_5 : decode cX3_init 5 = .ok (.bipush 6, 2) := by decide +kernel
theorem dX3_init_7 : decode cX3_init 7 = .ok (.newarray .int, 2) := by decide +kernel
theorem dX3_init_9 : decode cX3_init 9 = .ok (.putfield 9, 3) := by decide +kernel
theorem dX3_init_12 : decode cX3_init 12 = .ok (.aload_n 0, 1) := by decide +kernel
theorem dX3_init_13 : decode cX3_init 13 = .ok (.sipush 3000, 3) := by decide +kernel
theorem dX3_init_16 : decode cX3_init 16 = .ok (.newarray .int, 2) := by decide +kernel
theorem dX3_init_18 : decode cX3_init 18 = .ok (.putfield 15, 3) := by decide +kernel
theorem dX3_init_21 : decode cX3_init 21 = .ok (.aload_n 0, 1) := by decide +kernel
theorem dX3_init_22 : decode cX3_init 22 = .ok (.bipush 6, 2) := by decide +kernel
theorem dX3_init_24 : decode cX3_init 24 = .ok (.newarray .int, 2) := by decide +kernel
theorem dX3_init_26 : decode cX3_init 26 = .ok (.putfield 18, 3) := by decide +kernel
theorem dX3_init_29 : decode cX3_init 29 = .ok (.aload_n 0, 1) := by decide +kernel
theorem dX3_init_30 : decode cX3_init 30 = .ok (.iconst (-1), 1) := by decide +kernel
theorem dX3_init_31 : decode cX3_init 31 = .ok (.putfield 21, 3) := by decide +kernel
theorem dX3_init_34 : decode cX3_init 34 = .ok (.return_, 1) := by decide +kernel
theorem dX3_forget_0 : decode cX3_forget 0 = .ok (.aload_n 0, 1) := by decide +kernel
theorem dX3_forget_1 : decode cX3_forget 1 = .ok (.iconst 0, 1) := by decide +kernel
theorem dX3_forget_2 : decode cX3_forget 2 = .ok (.putfield 25, 3) := by decide +kernel
theorem dX3_forget_5 : decode cX3_forget 5 = .ok (.return_, 1) := by decide +kernel
theorem dX4_init_0 : decode cX4_init 0 = .ok (.aload_n 0, 1) := by decide +kernel
theorem dX4_init_1 : decode cX4_init 1 = .ok (.invokespecial 3, 3) := by decide +kernel
theorem dX4_init_4 : decode cX4_init 4 = .ok (.aload_n 0, 1) := by decide +kernel
theorem dX4_init_5 : decode cX4_init 5 = .ok (.bipush 8, 2) := by decide +kernel
theorem dX4_init_7 : decode cX4_init 7 = .ok (.newarray .long, 2) := by decide +kernel
theorem dX4_init_9 : decode cX4_init 9 = .ok (.putfield 9, 3) := by decide +kernel
theorem dX4_init_12 : decode cX4_init 12 = .ok (.aload_n 0, 1) := by decide +kernel
theorem dX4_init_13 : decode cX4_init 13 = .ok (.bipush 24, 2) := by decide +kernel
theorem dX4_init_15 : decode cX4_init 15 = .ok (.newarray .int, 2) := by decide +kernel
theorem dX4_init_17 : decode cX4_init 17 = .ok (.putfield 15, 3) := by decide +kernel
theorem dX4_init_20 : decode cX4_init 20 = .ok (.aload_n 0, 1) := by decide +kernel
theorem dX4_init_21 : decode cX4_init 21 = .ok (.bipush 64, 2) := by decide +kernel
theorem dX4_init_23 : decode cX4_init 23 = .ok (.newarray .boolean, 2) := by decide +kernel
theorem dX4_init_25 : decode cX4_init 25 = .ok (.putfield 19, 3) := by decide +kernel
theorem dX4_init_28 : decode cX4_init 28 = .ok (.aload_n 0, 1) := by decide +kernel
theorem dX4_init_29 : decode cX4_init 29 = .ok (.sipush 192, 3) := by decide +kernel
theorem dX4_init_32 : decode cX4_init 32 = .ok (.newarray .int, 2) := by decide +kernel
theorem dX4_init_34 : decode cX4_init 34 = .ok (.putfield 23, 3) := by decide +kernel
theorem dX4_init_37 : decode cX4_init 37 = .ok (.aload_n 0, 1) := by decide +kernel
theorem dX4_init_38 : decode cX4_init 38 = .ok (.bipush 8, 2) := by decide +kernel
theorem dX4_init_40 : decode cX4_init 40 = .ok (.newarray .long, 2) := by decide +kernel
theorem dX4_init_42 : decode cX4_init 42 = .ok (.putfield 26, 3) := by decide +kernel
theorem dX4_init_45 : decode cX4_init 45 = .ok (.aload_n 0, 1) := by decide +kernel
theorem dX4_init_46 : decode cX4_init 46 = .ok (.bipush 9, 2) := by decide +kernel
theorem dX4_init_48 : decode cX4_init 48 = .ok (.newarray .int, 2) := by decide +kernel
theorem dX4_init_50 : decode cX4_init 50 = .ok (.putfield 29, 3) := by decide +kernel
theorem dX4_init_53 : decode cX4_init 53 = .ok (.aload_n 0, 1) := by decide +kernel
theorem dX4_init_54 : decode cX4_init 54 = .ok (.bipush 24, 2) := by decide +kernel
theorem dX4_init_56 : decode cX4_init 56 = .ok (.newarray .int, 2) := by decide +kernel
theorem dX4_init_58 : decode cX4_init 58 = .ok (.putfield 32, 3) := by decide +kernel
theorem dX4_init_61 : decode cX4_init 61 = .ok (.aload_n 0, 1) := by decide +kernel
theorem dX4_init_62 : decode cX4_init 62 = .ok (.bipush 96, 2) := by decide +kernel
theorem dX4_init_64 : decode cX4_init 64 = .ok (.newarray .int, 2) := by decide +kernel
theorem dX4_init_66 : decode cX4_init 66 = .ok (.putfield 35, 3) := by decide +kernel
theorem dX4_init_69 : decode cX4_init 69 = .ok (.aload_n 0, 1) := by decide +kernel
theorem dX4_init_70 : decode cX4_init 70 = .ok (.bipush 6, 2) := by decide +kernel
theorem dX4_init_72 : decode cX4_init 72 = .ok (.newarray .int, 2) := by decide +kernel
theorem dX4_init_74 : decode cX4_init 74 = .ok (.putfield 38, 3) := by decide +kernel
theorem dX4_init_77 : decode cX4_init 77 = .ok (.aload_n 0, 1) := by decide +kernel
theorem dX4_init_78 : decode cX4_init 78 = .ok (.iconst 3, 1) := by decide +kernel
theorem dX4_init_79 : decode cX4_init 79 = .ok (.putfield 41, 3) := by decide +kernel
theorem dX4_init_82 : decode cX4_init 82 = .ok (.return_, 1) := by decide +kernel
set_option maxRecDepth 20000 in
theorem ggX4_empty_J7_fill_53178 : GoodIn wsX4_empty wsJ7_fill_53178 := goodIn_r _ [14] (by decide +kernel) (by decide +kernel)
set_option maxRecDepth 20000 in
theorem gX4_empty_J7_fill_53178 : GoodIn wsX4_empty (va_wsS RX4 51 yJ7_fill_53178 wsJ7_fill_53178) := goodIn_app (goodIn_of _ (by decide +kernel)) ggX4_empty_J7_fill_53178
theorem dX4_empty_0 : decode cX4_empty 0 = .ok (.aload_n 0, 1) := by decide +kernel
theorem dX4_empty_1 : decode cX4_empty 1 = .ok (.iconst 0, 1) := by decide +kernel
theorem dX4_empty_2 : decode cX4_empty 2 = .ok (.putfield 45, 3) := by decide +kernel
theorem dX4_empty_5 : decode cX4_empty 5 = .ok (.aload_n 0, 1) := by decide +kernel
theorem dX4_empty_6 : decode cX4_empty 6 = .ok (.iconst 0, 1) := by decide +kernel
theorem dX4_empty_7 : decode cX4_empty 7 = .ok (.putfield 48, 3) := by decide +kernel
theorem dX4_empty_10 : decode cX4_empty 10 = .ok (.aload_n 0, 1) := by decide +kernel
theorem dX4_empty_11 : decode cX4_empty 11 = .ok (.getfield 23, 3) := by decide +kernel
theorem dX4_empty_14 : decode cX4_empty 14 = .ok (.iconst 0, 1) := by decide +kernel
theorem dX4_empty_15 : decode cX4_empty 15 = .ok (.invokestatic 51, 3) := by decide +kernel
theorem dX4_empty_18 : decode cX4_empty 18 = .ok (.iconst 0, 1) := by decide +kernel
theorem dX4_empty_19 : decode cX4_empty 19 = .ok (.istore_n 1, 1) := by decide +kernel
theorem dX4_empty_20 : decode cX4_empty 20 = .ok (.iload_n 1, 1) := by decide +kernel
theorem dX4_empty_21 : decode cX4_empty 21 = .ok (.aload_n 0, 1) := by decide +kernel
theorem dX4_empty_22 : decode cX4_empty 22 = .ok (.getfield 19, 3) := by decide +kernel
theorem dX4_empty_25 : decode cX4_empty 25 = .ok (.arraylength, 1) := by decide +kernel
theorem dX4_empty_26 : decode cX4_empty 26 = .ok (.if_icmp .ge 16, 3) := by decide +kernel
theorem dX4_empty_29 : decode cX4_empty 29 = .ok (.aload_n 0, 1) := by decide +kernel
theorem dX4_empty_30 : decode cX4_empty 30 = .ok (.getfield 19, 3) := by decide +kernel
theorem dX4_empty_33 : decode cX4_empty 33 = .ok (.iload_n 1, 1) := by decide +kernel
theorem dX4_empty_34 : decode cX4_empty 34 = .ok (.iconst 0, 1) := by decide +kernel
theorem dX4_empty_35 : decode cX4_empty 35 = .ok (.bastore, 1) := by decide +kernel
theorem dX4_empty_36 : decode cX4_empty 36 = .ok (.iinc 1 1, 3) := by decide +kernel
theorem dX4_empty_39 : decode cX4_empty 39 = .ok (.goto (-19), 3) := by decide +kernel
theorem dX4_empty_42 : decode cX4_empty 42 = .ok (.aload_n 0, 1) := by decide +kernel
theorem dX4_empty_43 : decode cX4_empty 43 = .ok (.iconst 0, 1) := by decide +kernel
theorem dX4_empty_44 : decode cX4_empty 44 = .ok (.putfield 57, 3) := by decide +kernel
theorem dX4_empty_47 : decode cX4_empty 47 = .ok (.aload_n 0, 1) := by decide +kernel
theorem dX4_empty_48 : decode cX4_empty 48 = .ok (.getfield 29, 3) := by decide +kernel
theorem dX4_empty_51 : decode cX4_empty 51 = .ok (.iconst 0, 1) := by decide +kernel
theorem dX4_empty_52 : decode cX4_empty 52 = .ok (.iconst 0, 1) := by decide +kernel
theorem dX4_empty_53 : decode cX4_empty 53 = .ok (.iastore, 1) := by decide +kernel
theorem dX4_empty_54 : decode cX4_empty 54 = .ok (.aload_n 0, 1) := by decide +kernel
theorem dX4_empty_55 : decode cX4_empty 55 = .ok (.iconst 0, 1) := by decide +kernel
theorem dX4_empty_56 : decode cX4_empty 56 = .ok (.putfield 60, 3) := by decide +kernel
theorem dX4_empty_59 : decode cX4_empty 59 = .ok (.aload_n 0, 1) := by decide +kernel
theorem dX4_empty_60 : decode cX4_empty 60 = .ok (.iconst 3, 1) := by decide +kernel
theorem dX4_empty_61 : decode cX4_empty 61 = .ok (.putfield 41, 3) := by decide +kernel
theorem dX4_empty_64 : decode cX4_empty 64 = .ok (.aload_n 0, 1) := by decide +kernel
theorem dX4_empty_65 : decode cX4_empty 65 = .ok (.iconst 0, 1) := by decide +kernel
theorem dX4_empty_66 : decode cX4_empty 66 = .ok (.putfield 63, 3) := by decide +kernel
theorem dX4_empty_69 : decode cX4_empty 69 = .ok (.aload_n 0, 1) := by decide +kernel
theorem dX4_empty_70 : decode cX4_empty 70 = .ok (.iconst 0, 1) := by decide +kernel
theorem dX4_empty_71 : decode cX4_empty 71 = .ok (.putfield 67, 3) := by decide +kernel
theorem dX4_empty_74 : decode cX4_empty 74 = .ok (.return_, 1) := by decide +kernel
theorem dX4_hasWord_0 : decode cX4_hasWord 0 = .ok (.iload_n 1, 1) := by decide +kernel
theorem dX4_hasWord_1 : decode cX4_hasWord 1 = .ok (.ifCond .lt 15, 3) := by decide +kernel
theorem dX4_hasWord_4 : decode cX4_hasWord 4 = .ok (.iload_n 1, 1) := by decide +kernel
theorem dX4_hasWord_5 : decode cX4_hasWord 5 = .ok (.aload_n 0, 1) := by decide +kernel
theorem dX4_hasWord_6 : decode cX4_hasWord 6 = .ok (.getfield 45, 3) := by decide +kernel
theorem dX4_hasWord_9 : decode cX4_hasWord 9 = .ok (.if_icmp .ge 7, 3) := by decide +kernel
theorem dX4_hasWord_16 : decode cX4_hasWord 16 = .ok (.iconst 0, 1) := by decide +kernel
theorem dX4_hasWord_17 : decode cX4_hasWord 17 = .ok (.ireturn, 1) := by decide +kernel
theorem dX4_hasPlace_0 : decode cX4_hasPlace 0 = .ok (.iload_n 1, 1) := by decide +kernel
theorem dX4_hasPlace_1 : decode cX4_hasPlace 1 = .ok (.ifCond .lt 15, 3) := by decide +kernel
theorem dX4_hasPlace_4 : decode cX4_hasPlace 4 = .ok (.iload_n 1, 1) := by decide +kernel
theorem dX4_hasPlace_5 : decode cX4_hasPlace 5 = .ok (.aload_n 0, 1) := by decide +kernel
theorem dX4_hasPlace_6 : decode cX4_hasPlace 6 = .ok (.getfield 41, 3) := by decide +kernel
theorem dX4_hasPlace_9 : decode cX4_hasPlace 9 = .ok (.if_icmp .ge 7, 3) := by decide +kernel
theorem dX4_hasPlace_12 : decode cX4_hasPlace 12 = .ok (.iconst 1, 1) := by decide +kernel
theorem dX4_hasPlace_13 : decode cX4_hasPlace 13 = .ok (.goto 4, 3) := by decide +kernel
theorem dX4_hasPlace_16 : decode cX4_hasPlace 16 = .ok (.iconst 0, 1) := by decide +kernel
theorem dX4_hasPlace_17 : decode cX4_hasPlace 17 = .ok (.ireturn, 1) := by decide +kernel
theorem dX4_turnAt_0 : decode cX4_turnAt 0 = .ok (.aload_n 0, 1) := by decide +kernel
theorem dX4_turnAt_1 : decode cX4_turnAt 1 = .ok (.getfield 67, 3) := by decide +kernel
theorem dX4_turnAt_4 : decode cX4_turnAt 4 = .ok (.ifCond .le 17, 3) := by decide +kernel
theorem dX4_turnAt_21 : decode cX4_turnAt 21 = .ok (.iload_n 1, 1) := by decide +kernel
theorem dX4_turnAt_22 : decode cX4_turnAt 22 = .ok (.iconst 3, 1) := by decide +kernel
theorem dX4_turnAt_23 : decode cX4_turnAt 23 = .ok (.irem, 1) := by decide +kernel
theorem dX4_turnAt_24 : decode cX4_turnAt 24 = .ok (.ireturn, 1) := by decide +kernel
theorem dX4_meaningOf_0 : decode cX4_meaningOf 0 = .ok (.iconst 0, 1) := by decide +kernel
theorem dX4_meaningOf_1 : decode cX4_meaningOf 1 = .ok (.istore 4, 2) := by decide +kernel
theorem dX4_meaningOf_3 : decode cX4_meaningOf 3 = .ok (.iconst 0, 1) := by decide +kernel
theorem dX4_meaningOf_4 : decode cX4_meaningOf 4 = .ok (.istore 5, 2) := by decide +kernel
theorem dX4_meaningOf_6 : decode cX4_meaningOf 6 = .ok (.iload 5, 2) := by decide +kernel
theorem dX4_meaningOf_8 : decode cX4_meaningOf 8 = .ok (.iload_n 2, 1) := by decide +kernel
theorem dX4_meaningOf_9 : decode cX4_meaningOf 9 = .ok (.if_icmp .ge 38, 3) := by decide +kernel
theorem dX4_meaningOf_47 : decode cX4_meaningOf 47 = .ok (.iload 4, 2) := by decide +kernel
theorem dX4_meaningOf_49 : decode cX4_meaningOf 49 = .ok (.ireturn, 1) := by decide +kernel
theorem dX4_findShortest_0 : decode cX4_findShortest 0 = .ok (.iconst 0, 1) := by decide +kernel
theorem dX4_findShortest_1 : decode cX4_findShortest 1 = .ok (.istore_n 2, 1) := by decide +kernel
theorem dX4_findShortest_2 : decode cX4_findShortest 2 = .ok (.iload_n 2, 1) := by decide +kernel
theorem dX4_findShortest_3 : decode cX4_findShortest 3 = .ok (.bipush 16, 2) := by decide +kernel
theorem dX4_findShortest_5 : decode cX4_findShortest 5 = .ok (.if_icmp .ge 25, 3) := by decide +kernel
theorem dX4_findShortest_8 : decode cX4_findShortest 8 = .ok (.aload_n 1, 1) := by decide +kernel
theorem dX4_findShortest_9 : decode cX4_findShortest 9 = .ok (.iload_n 2, 1) := by decide +kernel
theorem dX4_findShortest_10 : decode cX4_findShortest 10 = .ok (.iload_n 2, 1) := by decide +kernel
theorem dX4_findShortest_11 : decode cX4_findShortest 11 = .ok (.aload_n 0, 1) := by decide +kernel
theorem dX4_findShortest_12 : decode cX4_findShortest 12 = .ok (.getfield 45, 3) := by decide +kernel
theorem dX4_findShortest_15 : decode cX4_findShortest 15 = .ok (.if_icmp .ge 7, 3) := by decide +kernel
theorem dX4_findShortest_22 : decode cX4_findShortest 22 = .ok (.iconst 0, 1) := by decide +kernel
theorem dX4_findShortest_23 : decode cX4_findShortest 23 = .ok (.iastore, 1) := by decide +kernel
theorem dX4_findShortest_24 : decode cX4_findShortest 24 = .ok (.iinc 2 1, 3) := by decide +kernel
theorem dX4_findShortest_27 : decode cX4_findShortest 27 = .ok (.goto (-25), 3) := by decide +kernel
theorem dX4_findShortest_30 : decode cX4_findShortest 30 = .ok (.iconst 0, 1) := by decide +kernel
theorem dX4_findShortest_31 : decode cX4_findShortest 31 = .ok (.istore_n 2, 1) := by decide +kernel
theorem dX4_findShortest_32 : decode cX4_findShortest 32 = .ok (.iload_n 2, 1) := by decide +kernel
theorem dX4_findShortest_33 : decode cX4_findShortest 33 = .ok (.aload_n 0, 1) := by decide +kernel
theorem dX4_findShortest_34 : decode cX4_findShortest 34 = .ok (.getfield 57, 3) := by decide +kernel
theorem dX4_findShortest_37 : decode cX4_findShortest 37 = .ok (.if_icmp .ge 94, 3) := by decide +kernel
theorem dX4_findShortest_131 : decode cX4_findShortest 131 = .ok (.return_, 1) := by decide +kernel
theorem dX4_rulesOfUse_0 : decode cX4_rulesOfUse 0 = .ok (.aload_n 0, 1) := by decide +kernel
theorem dX4_rulesOfUse_1 : decode cX4_rulesOfUse 1 = .ok (.getfield 57, 3) := by decide +kernel
theorem dX4_rulesOfUse_4 : decode cX4_rulesOfUse 4 = .ok (.ifCond .le 14, 3) := by decide +kernel
theorem dX4_rulesOfUse_18 : decode cX4_rulesOfUse 18 = .ok (.iconst 0, 1) := by decide +kernel
theorem dX4_rulesOfUse_19 : decode cX4_rulesOfUse 19 = .ok (.istore_n 2, 1) := by decide +kernel
theorem dX4_rulesOfUse_20 : decode cX4_rulesOfUse 20 = .ok (.iconst 0, 1) := by decide +kernel
theorem dX4_rulesOfUse_21 : decode cX4_rulesOfUse 21 = .ok (.istore_n 3, 1) := by decide +kernel
theorem dX4_rulesOfUse_22 : decode cX4_rulesOfUse 22 = .ok (.iload_n 3, 1) := by decide +kernel
theorem dX4_rulesOfUse_23 : decode cX4_rulesOfUse 23 = .ok (.aload_n 0, 1) := by decide +kernel
theorem dX4_rulesOfUse_24 : decode cX4_rulesOfUse 24 = .ok (.getfield 57, 3) := by decide +kernel
theorem dX4_rulesOfUse_27 : decode cX4_rulesOfUse 27 = .ok (.if_icmp .ge 46, 3) := by decide +kernel
theorem dX4_rulesOfUse_73 : decode cX4_rulesOfUse 73 = .ok (.iload_n 2, 1) := by decide +kernel
theorem dX4_rulesOfUse_74 : decode cX4_rulesOfUse 74 = .ok (.ireturn, 1) := by decide +kernel
theorem dX5_init_0 : decode cX5_init 0 = .ok (.aload_n 0, 1) := by decide +kernel
theorem dX5_init_1 : decode cX5_init 1 = .ok (.invokespecial 3, 3) := by decide +kernel
theorem dX5_init_4 : decode cX5_init 4 = .ok (.aload_n 0, 1) := by decide +kernel
theorem dX5_init_5 : decode cX5_init 5 = .ok (.bipush 112, 2) := by decide +kernel
theorem dX5_init_7 : decode cX5_init 7 = .ok (.newarray .long, 2) := by decide +kernel
theorem dX5_init_9 : decode cX5_init 9 = .ok (.putfield 9, 3) := by decide +kernel
theorem dX5_init_12 : decode cX5_init 12 = .ok (.aload_n 0, 1) := by decide +kernel
theorem dX5_init_13 : decode cX5_init 13 = .ok (.bipush 112, 2) := by decide +kernel
theorem dX5_init_15 : decode cX5_init 15 = .ok (.newarray .long, 2) := by decide +kernel
theorem dX5_init_17 : decode cX5_init 17 = .ok (.putfield 15, 3) := by decide +kernel
theorem dX5_init_20 : decode cX5_init 20 = .ok (.return_, 1) := by decide +kernel
theorem dX5_readBeginning_0 : decode cX5_readBeginning 0 = .ok (.iconst 0, 1) := by decide +kernel
theorem dX5_readBeginning_1 : decode cX5_readBeginning 1 = .ok (.istore 4, 2) := by decide +kernel
theorem dX5_readBeginning_3 : decode cX5_readBeginning 3 = .ok (.iload 4, 2) := by decide +kernel
theorem dX5_readBeginning_5 : decode cX5_readBeginning 5 = .ok (.iload_n 3, 1) := by decide +kernel
theorem dX5_readBeginning_6 : decode cX5_readBeginning 6 = .ok (.if_icmp .ge 25, 3) := by decide +kernel
theorem dX5_readBeginning_31 : decode cX5_readBeginning 31 = .ok (.return_, 1) := by decide +kernel
theorem dX5_nextWords_0 : decode cX5_nextWords 0 = .ok (.iload_n 2, 1) := by decide +kernel
theorem dX5_nextWords_1 : decode cX5_nextWords 1 = .ok (.aload_n 1, 1) := by decide +kernel
theorem dX5_nextWords_2 : decode cX5_nextWords 2 = .ok (.getfield 22, 3) := by decide +kernel
theorem dX5_nextWords_5 : decode cX5_nextWords 5 = .ok (.if_icmp .ge 10, 3) := by decide +kernel
theorem dX5_nextWords_8 : decode cX5_nextWords 8 = .ok (.aload_n 1, 1) := by decide +kernel
theorem dX5_nextWords_9 : decode cX5_nextWords 9 = .ok (.getfield 28, 3) := by decide +kernel
theorem dX5_nextWords_12 : decode cX5_nextWords 12 = .ok (.ifCond .ne 5, 3) := by decide +kernel
theorem dX5_nextWords_15 : decode cX5_nextWords 15 = .ok (.iconst 0, 1) := by decide +kernel
theorem dX5_nextWords_16 : decode cX5_nextWords 16 = .ok (.ireturn, 1) := by decide +kernel
theorem dX6_init_0 : decode cX6_init 0 = .ok (.aload_n 0, 1) := by decide +kernel
theorem dX6_init_1 : decode cX6_init 1 = .ok (.invokespecial 3, 3) := by decide +kernel
theorem dX6_init_4 : decode cX6_init 4 = .ok (.aload_n 0, 1) := by decide +kernel
theorem dX6_init_5 : decode cX6_init 5 = .ok (.bipush 30, 2) := by decide +kernel
theorem dX6_init_7 : decode cX6_init 7 = .ok (.newarray .int, 2) := by decide +kernel
theorem dX6_init_9 : decode cX6_init 9 = .ok (.putfield 9, 3) := by decide +kernel
theorem dX6_init_12 : decode cX6_init 12 = .ok (.aload_n 0, 1) := by decide +kernel
theorem dX6_init_13 : decode cX6_init 13 = .ok (.bipush 30, 2) := by decide +kernel
theorem dX6_init_15 : decode cX6_init 15 = .ok (.newarray .int, 2) := by decide +kernel
theorem dX6_init_17 : decode cX6_init 17 = .ok (.putfield 15, 3) := by decide +kernel
theorem dX6_init_20 : decode cX6_init 20 = .ok (.aload_n 0, 1) := by decide +kernel
theorem dX6_init_21 : decode cX6_init 21 = .ok (.bipush 30, 2) := by decide +kernel
theorem dX6_init_23 : decode cX6_init 23 = .ok (.newarray .boolean, 2) := by decide +kernel
theorem dX6_init_25 : decode cX6_init 25 = .ok (.putfield 18, 3) := by decide +kernel
theorem dX6_init_28 : decode cX6_init 28 = .ok (.aload_n 0, 1) := by decide +kernel
theorem dX6_init_29 : decode cX6_init 29 = .ok (.bipush 30, 2) := by decide +kernel
theorem dX6_init_31 : decode cX6_init 31 = .ok (.newarray .int, 2) := by decide +kernel
theorem dX6_init_33 : decode cX6_init 33 = .ok (.putfield 22, 3) := by decide +kernel
theorem dX6_init_36 : decode cX6_init 36 = .ok (.aload_n 0, 1) := by decide +kernel
theorem dX6_init_37 : decode cX6_init 37 = .ok (.bipush 30, 2) := by decide +kernel
theorem dX6_init_39 : decode cX6_init 39 = .ok (.newarray .int, 2) := by decide +kernel
theorem dX6_init_41 : decode cX6_init 41 = .ok (.putfield 25, 3) := by decide +kernel
theorem dX6_init_44 : decode cX6_init 44 = .ok (.return_, 1) := by decide +kernel
theorem dX6_takeBack_0 : decode cX6_takeBack 0 = .ok (.iload_n 1, 1) := by decide +kernel
theorem dX6_takeBack_1 : decode cX6_takeBack 1 = .ok (.ifCond .lt 21, 3) := by decide +kernel
theorem dX6_takeBack_4 : decode cX6_takeBack 4 = .ok (.iload_n 1, 1) := by decide +kernel
theorem dX6_takeBack_5 : decode cX6_takeBack 5 = .ok (.aload_n 0, 1) := by decide +kernel
theorem dX6_takeBack_6 : decode cX6_takeBack 6 = .ok (.getfield 28, 3) := by decide +kernel
theorem dX6_takeBack_9 : decode cX6_takeBack 9 = .ok (.if_icmp .ge 13, 3) := by decide +kernel
theorem dX6_takeBack_22 : decode cX6_takeBack 22 = .ok (.iconst 0, 1) := by decide +kernel
theorem dX6_takeBack_23 : decode cX6_takeBack 23 = .ok (.ireturn, 1) := by decide +kernel
theorem dX7_init_0 : decode cX7_init 0 = .ok (.aload_n 0, 1) := by decide +kernel
theorem dX7_init_1 : decode cX7_init 1 = .ok (.invokespecial 3, 3) := by decide +kernel
theorem dX7_init_4 : decode cX7_init 4 = .ok (.aload_n 0, 1) := by decide +kernel
theorem dX7_init_5 : decode cX7_init 5 = .ok (.bipush 6, 2) := by decide +kernel
theorem dX7_init_7 : decode cX7_init 7 = .ok (.newarray .int, 2) := by decide +kernel
theorem dX7_init_9 : decode cX7_init 9 = .ok (.putfield 9, 3) := by decide +kernel
theorem dX7_init_12 : decode cX7_init 12 = .ok (.aload_n 0, 1) := by decide +kernel
theorem dX7_init_13 : decode cX7_init 13 = .ok (.sipush 784, 3) := by decide +kernel
theorem dX7_init_16 : decode cX7_init 16 = .ok (.newarray .int, 2) := by decide +kernel
theorem dX7_init_18 : decode cX7_init 18 = .ok (.putfield 15, 3) := by decide +kernel
theorem dX7_init_21 : decode cX7_init 21 = .ok (.return_, 1) := by decide +kernel
theorem dX7_forget_0 : decode cX7_forget 0 = .ok (.aload_n 0, 1) := by decide +kernel
theorem dX7_forget_1 : decode cX7_forget 1 = .ok (.iconst 0, 1) := by decide +kernel
theorem dX7_forget_2 : decode cX7_forget 2 = .ok (.putfield 18, 3) := by decide +kernel
theorem dX7_forget_5 : decode cX7_forget 5 = .ok (.return_, 1) := by decide +kernel
theorem dX7_countOf_0 : decode cX7_countOf 0 = .ok (.iconst 0, 1) := by decide +kernel
theorem dX7_countOf_1 : decode cX7_countOf 1 = .ok (.istore 4, 2) := by decide +kernel
theorem dX7_countOf_3 : decode cX7_countOf 3 = .ok (.iload 4, 2) := by decide +kernel
theorem dX7_countOf_5 : decode cX7_countOf 5 = .ok (.aload_n 0, 1) := by decide +kernel
theorem dX7_countOf_6 : decode cX7_countOf 6 = .ok (.getfield 18, 3) := by decide +kernel
theorem dX7_countOf_9 : decode cX7_countOf 9 = .ok (.if_icmp .ge 29, 3) := by decide +kernel
theorem dX7_countOf_38 : decode cX7_countOf 38 = .ok (.iload 4, 2) := by decide +kernel
theorem dX7_countOf_40 : decode cX7_countOf 40 = .ok (.istore 5, 2) := by decide +kernel
theorem dX7_countOf_42 : decode cX7_countOf 42 = .ok (.iload 5, 2) := by decide +kernel
theorem dX7_countOf_44 : decode cX7_countOf 44 = .ok (.iload_n 3, 1) := by decide +kernel
theorem dX7_countOf_45 : decode cX7_countOf 45 = .ok (.if_icmp .ge 29, 3) := by decide +kernel
theorem dX7_countOf_74 : decode cX7_countOf 74 = .ok (.aload_n 0, 1) := by decide +kernel
theorem dX7_countOf_75 : decode cX7_countOf 75 = .ok (.iload_n 3, 1) := by decide +kernel
theorem dX7_countOf_76 : decode cX7_countOf 76 = .ok (.putfield 18, 3) := by decide +kernel
theorem dX7_countOf_79 : decode cX7_countOf 79 = .ok (.iload_n 3, 1) := by decide +kernel
theorem dX7_countOf_80 : decode cX7_countOf 80 = .ok (.ifCond .le 25, 3) := by decide +kernel
theorem dX7_countOf_105 : decode cX7_countOf 105 = .ok (.iconst 0, 1) := by decide +kernel
theorem dX7_countOf_106 : decode cX7_countOf 106 = .ok (.ireturn, 1) := by decide +kernel
set_option maxRecDepth 20000 in
theorem ggX8_init_X8_packed : GoodIn wsX8_init wsX8_packed := goodIn_r _ [12, 13, 14, 15, 16, 17, 18, 19, 20, 21, 22, 23, 24, 25, 26, 27, 28, 29, 30, 31, 32, 33, 34, 35, 36, 37, 38, 39, 40, 41, 42, 43, 44, 45, 46, 47, 48, 49, 50, 51, 52, 53, 54, 55, 56, 57, 58, 59, 60, 61] (by decide +kernel) (by decide +kernel)
set_option maxRecDepth 20000 in
theorem gX8_init_X8_packed : GoodIn wsX8_init (va_wsS RX8 11 yX8_packed wsX8_packed) := goodIn_app (goodIn_of _ (by decide +kernel)) ggX8_init_X8_packed
theorem dX8_init_0 : decode cX8_init 0 = .ok (.aload_n 0, 1) := by decide +kernel
theorem dX8_init_1 : decode cX8_init 1 = .ok (.invokespecial 3, 3) := by decide +kernel
theorem dX8_init_4 : decode cX8_init 4 = .ok (.aload_n 0, 1) := by decide +kernel
theorem dX8_init_5 : decode cX8_init 5 = .ok (.bipush 6, 2) := by decide +kernel
theorem dX8_init_7 : decode cX8_init 7 = .ok (.newarray .long, 2) := by decide +kernel
theorem dX8_init_9 : decode cX8_init 9 = .ok (.dup, 1) := by decide +kernel
theorem dX8_init_10 : decode cX8_init 10 = .ok (.iconst 0, 1) := by decide +kernel
theorem dX8_init_11 : decode cX8_init 11 = .ok (.ldc 9, 2) := by decide +kernel
theorem dX8_init_13 : decode cX8_init 13 = .ok (.invokestatic 11, 3) := by decide +kernel
theorem dX8_init_16 : decode cX8_init 16 = .ok (.lastore, 1) := by decide +kernel
theorem dX8_init_17 : decode cX8_init 17 = .ok (.dup, 1) := by decide +kernel
theorem dX8_init_18 : decode cX8_init 18 = .ok (.iconst 1, 1) := by decide +kernel
theorem dX8_init_19 : decode cX8_init 19 = .ok (.ldc 17, 2) := by decide +kernel
theorem dX8_init_21 : decode cX8_init 21 = .ok (.invokestatic 11, 3) := by decide +kernel
theorem dX8_init_24 : decode cX8_init 24 = .ok (.lastore, 1) := by decide +kernel
theorem dX8_init_25 : decode cX8_init 25 = .ok (.dup, 1) := by decide +kernel
theorem dX8_init_26 : decode cX8_init 26 = .ok (.iconst 2, 1) := by decide +kernel
theorem dX8_init_27 : decode cX8_init 27 = .ok (.ldc 19, 2) := by decide +kernel
theorem dX8_init_29 : decode cX8_init 29 = .ok (.invokestatic 11, 3) := by decide +kernel
theorem dX8_init_32 : decode cX8_init 32 = .ok (.lastore, 1) := by decide +kernel
theorem dX8_init_33 : decode cX8_init 33 = .ok (.dup, 1) := by decide +kernel
theorem dX8_init_34 : decode cX8_init 34 = .ok (.iconst 3, 1) := by decide +kernel
theorem dX8_init_35 : decode cX8_init 35 = .ok (.ldc 21, 2) := by decide +kernel
theorem dX8_init_37 : decode cX8_init 37 = .ok (.invokestatic 11, 3) := by decide +kernel
theorem dX8_init_40 : decode cX8_init 40 = .ok (.lastore, 1) := by decide +kernel
theorem dX8_init_41 : decode cX8_init 41 = .ok (.dup, 1) := by decide +kernel
theorem dX8_init_42 : decode cX8_init 42 = .ok (.iconst 4, 1) := by decide +kernel
theorem dX8_init_43 : decode cX8_init 43 = .ok (.ldc 23, 2) := by decide +kernel
theorem dX8_init_45 : decode cX8_init 45 = .ok (.invokestatic 11, 3) := by decide +kernel
theorem dX8_init_48 : decode cX8_init 48 = .ok (.lastore, 1) := by decide +kernel
theorem dX8_init_49 : decode cX8_init 49 = .ok (.dup, 1) := by decide +kernel
theorem dX8_init_50 : decode cX8_init 50 = .ok (.iconst 5, 1) := by decide +kernel
theorem dX8_init_51 : decode cX8_init 51 = .ok (.ldc 25, 2) := by decide +kernel
theorem dX8_init_53 : decode cX8_init 53 = .ok (.invokestatic 11, 3) := by decide +kernel
theorem dX8_init_56 : decode cX8_init 56 = .ok (.lastore, 1) := by decide +kernel
theorem dX8_init_57 : decode cX8_init 57 = .ok (.putfield 27, 3) := by decide +kernel
theorem dX8_init_60 : decode cX8_init 60 = .ok (.aload_n 0, 1) := by decide +kernel
theorem dX8_init_61 : decode cX8_init 61 = .ok (.iconst 0, 1) := by decide +kernel
theorem dX8_init_62 : decode cX8_init 62 = .ok (.newarray .byte, 2) := by decide +kernel
theorem dX8_init_64 : decode cX8_init 64 = .ok (.putfield 31, 3) := by decide +kernel
theorem dX8_init_67 : decode cX8_init 67 = .ok (.aload_n 0, 1) := by decide +kernel
theorem dX8_init_68 : decode cX8_init 68 = .ok (.iconst (-1), 1) := by decide +kernel
theorem dX8_init_69 : decode cX8_init 69 = .ok (.putfield 35, 3) := by decide +kernel
theorem dX8_init_72 : decode cX8_init 72 = .ok (.return_, 1) := by decide +kernel
set_option maxRecDepth 20000 in
theorem ggX8_packed_J0_length_8abf5 : GoodIn wsX8_packed wsJ0_length_8abf5 := goodIn_r _ [5, 6, 7, 8, 9, 4, 10, 11, 12] (by decide +kernel) (by decide +kernel)
set_option maxRecDepth 20000 in
theorem gX8_packed_J0_length_8abf5 : GoodIn wsX8_packed (wsV RX8 39 RJ0 yJ0_length_8abf5 wsJ0_length_8abf5) := goodIn_app (goodIn_of _ (by decide +kernel)) ggX8_packed_J0_length_8abf5
set_option maxRecDepth 20000 in
theorem ggX8_packed_J0_charAt_5068e : GoodIn wsX8_packed wsJ0_charAt_5068e := goodIn_r _ [16, 6, 17, 18, 19, 4, 20, 11, 12, 21, 22, 23, 24, 25, 26, 27, 28, 29, 30, 31, 32, 33, 34, 35, 36, 37, 38, 39, 40, 41, 42, 43, 44, 45, 46, 47, 48, 49] (by decide +kernel) (by decide +kernel)
set_option maxRecDepth 20000 in
theorem gX8_packed_J0_charAt_5068e : GoodIn wsX8_packed (wsV RX8 44 RJ0 yJ0_charAt_5068e wsJ0_charAt_5068e) := goodIn_app (goodIn_of _ (by decide +kernel)) ggX8_packed_J0_charAt_5068e
theorem dX8_packed_0 : decode cX8_packed 0 = .ok (.lconst 0, 1) := by decide +kernel
theorem dX8_packed_1 : decode cX8_packed 1 = .ok (.lstore_n 1, 1) := by decide +kernel
theorem dX8_packed_2 : decode cX8_packed 2 = .ok (.iconst 0, 1) := by decide +kernel
theorem dX8_packed_3 : decode cX8_packed 3 = .ok (.istore_n 3, 1) := by decide +kernel
theorem dX8_packed_4 : decode cX8_packed 4 = .ok (.iload_n 3, 1) := by decide +kernel
theorem dX8_packed_5 : decode cX8_packed 5 = .ok (.aload_n 0, 1) := by decide +kernel
theorem dX8_packed_6 : decode cX8_packed 6 = .ok (.invokevirtual 39, 3) := by decide +kernel
theorem dX8_packed_9 : decode cX8_packed 9 = .ok (.if_icmp .ge 23, 3) := by decide +kernel
theorem dX8_packed_12 : decode cX8_packed 12 = .ok (.lload_n 1, 1) := by decide +kernel
theorem dX8_packed_13 : decode cX8_packed 13 = .ok (.iconst 5, 1) := by decide +kernel
theorem dX8_packed_14 : decode cX8_packed 14 = .ok (.lshl, 1) := by decide +kernel
theorem dX8_packed_15 : decode cX8_packed 15 = .ok (.aload_n 0, 1) := by decide +kernel
theorem dX8_packed_16 : decode cX8_packed 16 = .ok (.iload_n 3, 1) := by decide +kernel
theorem dX8_packed_17 : decode cX8_packed 17 = .ok (.invokevirtual 44, 3) := by decide +kernel
theorem dX8_packed_20 : decode cX8_packed 20 = .ok (.bipush 96, 2) := by decide +kernel
theorem dX8_packed_22 : decode cX8_packed 22 = .ok (.isub, 1) := by decide +kernel
theorem dX8_packed_23 : decode cX8_packed 23 = .ok (.i2l, 1) := by decide +kernel
theorem dX8_packed_24 : decode cX8_packed 24 = .ok (.lor, 1) := by decide +kernel
theorem dX8_packed_25 : decode cX8_packed 25 = .ok (.lstore_n 1, 1) := by decide +kernel
theorem dX8_packed_26 : decode cX8_packed 26 = .ok (.iinc 3 1, 3) := by decide +kernel
theorem dX8_packed_29 : decode cX8_packed 29 = .ok (.goto (-25), 3) := by decide +kernel
theorem dX8_packed_32 : decode cX8_packed 32 = .ok (.lload_n 1, 1) := by decide +kernel
theorem dX8_packed_33 : decode cX8_packed 33 = .ok (.lreturn, 1) := by decide +kernel
set_option maxRecDepth 20000 in
theorem ggX8_begin_X8_advance : GoodIn wsX8_begin wsX8_advance := goodIn_r _ [14, 7, 15, 6, 1, 16, 17, 18, 19, 13, 20, 21, 22, 23, 24, 25, 26, 27, 28, 29, 30, 31, 8, 9, 32, 33, 34, 35, 36, 37, 38, 39, 40, 41] (by decide +kernel) (by decide +kernel)
set_option maxRecDepth 20000 in
theorem gX8_begin_X8_advance : GoodIn wsX8_begin (wsV RX8 63 RX8 yX8_advance wsX8_advance) := goodIn_app (goodIn_of _ (by decide +kernel)) ggX8_begin_X8_advance
theorem dX8_begin_0 : decode cX8_begin 0 = .ok (.aload_n 0, 1) := by decide +kernel
theorem dX8_begin_1 : decode cX8_begin 1 = .ok (.aload_n 1, 1) := by decide +kernel
theorem dX8_begin_2 : decode cX8_begin 2 = .ok (.putfield 31, 3) := by decide +kernel
theorem dX8_begin_5 : decode cX8_begin 5 = .ok (.aload_n 0, 1) := by decide +kernel
theorem dX8_begin_6 : decode cX8_begin 6 = .ok (.iload_n 2, 1) := by decide +kernel
theorem dX8_begin_7 : decode cX8_begin 7 = .ok (.aload_n 1, 1) := by decide +kernel
theorem dX8_begin_8 : decode cX8_begin 8 = .ok (.arraylength, 1) := by decide +kernel
theorem dX8_begin_9 : decode cX8_begin 9 = .ok (.invokestatic 48, 3) := by decide +kernel
theorem dX8_begin_12 : decode cX8_begin 12 = .ok (.putfield 54, 3) := by decide +kernel
theorem dX8_begin_15 : decode cX8_begin 15 = .ok (.aload_n 0, 1) := by decide +kernel
theorem dX8_begin_16 : decode cX8_begin 16 = .ok (.iconst 0, 1) := by decide +kernel
theorem dX8_begin_17 : decode cX8_begin 17 = .ok (.putfield 57, 3) := by decide +kernel
theorem dX8_begin_20 : decode cX8_begin 20 = .ok (.aload_n 0, 1) := by decide +kernel
theorem dX8_begin_21 : decode cX8_begin 21 = .ok (.iconst 0, 1) := by decide +kernel
theorem dX8_begin_22 : decode cX8_begin 22 = .ok (.putfield 60, 3) := by decide +kernel
theorem dX8_begin_25 : decode cX8_begin 25 = .ok (.aload_n 0, 1) := by decide +kernel
theorem dX8_begin_26 : decode cX8_begin 26 = .ok (.iconst (-1), 1) := by decide +kernel
theorem dX8_begin_27 : decode cX8_begin 27 = .ok (.putfield 35, 3) := by decide +kernel
theorem dX8_begin_30 : decode cX8_begin 30 = .ok (.aload_n 0, 1) := by decide +kernel
theorem dX8_begin_31 : decode cX8_begin 31 = .ok (.invokevirtual 63, 3) := by decide +kernel
theorem dX8_begin_34 : decode cX8_begin 34 = .ok (.return_, 1) := by decide +kernel
theorem dX8_advance_0 : decode cX8_advance 0 = .ok (.aload_n 0, 1) := by decide +kernel
theorem dX8_advance_1 : decode cX8_advance 1 = .ok (.aload_n 0, 1) := by decide +kernel
theorem dX8_advance_2 : decode cX8_advance 2 = .ok (.getfield 57, 3) := by decide +kernel
theorem dX8_advance_5 : decode cX8_advance 5 = .ok (.putfield 66, 3) := by decide +kernel
theorem dX8_advance_8 : decode cX8_advance 8 = .ok (.aload_n 0, 1) := by decide +kernel
theorem dX8_advance_9 : decode cX8_advance 9 = .ok (.getfield 66, 3) := by decide +kernel
theorem dX8_advance_12 : decode cX8_advance 12 = .ok (.aload_n 0, 1) := by decide +kernel
theorem dX8_advance_13 : decode cX8_advance 13 = .ok (.getfield 54, 3) := by decide +kernel
theorem dX8_advance_16 : decode cX8_advance 16 = .ok (.if_icmp .ge 44, 3) := by decide +kernel
theorem dX8_advance_60 : decode cX8_advance 60 = .ok (.aload_n 0, 1) := by decide +kernel
theorem dX8_advance_61 : decode cX8_advance 61 = .ok (.aload_n 0, 1) := by decide +kernel
theorem dX8_advance_62 : decode cX8_advance 62 = .ok (.getfield 66, 3) := by decide +kernel
theorem dX8_advance_65 : decode cX8_advance 65 = .ok (.putfield 57, 3) := by decide +kernel
theorem dX8_advance_68 : decode cX8_advance 68 = .ok (.aload_n 0, 1) := by decide +kernel
theorem dX8_advance_69 : decode cX8_advance 69 = .ok (.getfield 66, 3) := by decide +kernel
theorem dX8_advance_72 : decode cX8_advance 72 = .ok (.aload_n 0, 1) := by decide +kernel
theorem dX8_advance_73 : decode cX8_advance 73 = .ok (.getfield 54, 3) := by decide +kernel
theorem dX8_advance_76 : decode cX8_advance 76 = .ok (.if_icmp .ge 15, 3) := by decide +kernel
theorem dX8_advance_91 : decode cX8_advance 91 = .ok (.iconst 0, 1) := by decide +kernel
theorem dX8_advance_92 : decode cX8_advance 92 = .ok (.istore_n 1, 1) := by decide +kernel
theorem dX8_advance_93 : decode cX8_advance 93 = .ok (.aload_n 0, 1) := by decide +kernel
theorem dX8_advance_94 : decode cX8_advance 94 = .ok (.getfield 66, 3) := by decide +kernel
theorem dX8_advance_97 : decode cX8_advance 97 = .ok (.aload_n 0, 1) := by decide +kernel
theorem dX8_advance_98 : decode cX8_advance 98 = .ok (.getfield 54, 3) := by decide +kernel
theorem dX8_advance_101 : decode cX8_advance 101 = .ok (.if_icmp .lt 11, 3) := by decide +kernel
theorem dX8_advance_104 : decode cX8_advance 104 = .ok (.aload_n 0, 1) := by decide +kernel
theorem dX8_advance_105 : decode cX8_advance 105 = .ok (.iconst 0, 1) := by decide +kernel
theorem dX8_advance_106 : decode cX8_advance 106 = .ok (.putfield 69, 3) := by decide +kernel
theorem dX8_advance_109 : decode cX8_advance 109 = .ok (.goto 76, 3) := by decide +kernel
theorem dX8_advance_185 : decode cX8_advance 185 = .ok (.aload_n 0, 1) := by decide +kernel
theorem dX8_advance_186 : decode cX8_advance 186 = .ok (.getfield 69, 3) := by decide +kernel
theorem dX8_advance_189 : decode cX8_advance 189 = .ok (.iconst 1, 1) := by decide +kernel
theorem dX8_advance_190 : decode cX8_advance 190 = .ok (.if_icmp .ne 9, 3) := by decide +kernel
theorem dX8_advance_199 : decode cX8_advance 199 = .ok (.return_, 1) := by decide +kernel
theorem dX9_init_0 : decode cX9_init 0 = .ok (.aload_n 0, 1) := by decide +kernel
theorem dX9_init_1 : decode cX9_init 1 = .ok (.invokespecial 3, 3) := by decide +kernel
theorem dX9_init_4 : decode cX9_init 4 = .ok (.aload_n 0, 1) := by decide +kernel
theorem dX9_init_5 : decode cX9_init 5 = .ok (.sipush 3000, 3) := by decide +kernel
theorem dX9_init_8 : decode cX9_init 8 = .ok (.newarray .int, 2) := by decide +kernel
theorem dX9_init_10 : decode cX9_init 10 = .ok (.putfield 9, 3) := by decide +kernel
theorem dX9_init_13 : decode cX9_init 13 = .ok (.aload_n 0, 1) := by decide +kernel
theorem dX9_init_14 : decode cX9_init 14 = .ok (.sipush 3000, 3) := by decide +kernel
theorem dX9_init_17 : decode cX9_init 17 = .ok (.newarray .int, 2) := by decide +kernel
theorem dX9_init_19 : decode cX9_init 19 = .ok (.putfield 15, 3) := by decide +kernel
theorem dX9_init_22 : decode cX9_init 22 = .ok (.aload_n 0, 1) := by decide +kernel
theorem dX9_init_23 : decode cX9_init 23 = .ok (.sipush 9000, 3) := by decide +kernel
theorem dX9_init_26 : decode cX9_init 26 = .ok (.newarray .int, 2) := by decide +kernel
theorem dX9_init_28 : decode cX9_init 28 = .ok (.putfield 18, 3) := by decide +kernel
theorem dX9_init_31 : decode cX9_init 31 = .ok (.aload_n 0, 1) := by decide +kernel
theorem dX9_init_32 : decode cX9_init 32 = .ok (.sipush 3000, 3) := by decide +kernel
theorem dX9_init_35 : decode cX9_init 35 = .ok (.newarray .int, 2) := by decide +kernel
theorem dX9_init_37 : decode cX9_init 37 = .ok (.putfield 21, 3) := by decide +kernel
theorem dX9_init_40 : decode cX9_init 40 = .ok (.return_, 1) := by decide +kernel
theorem dX9_forget_0 : decode cX9_forget 0 = .ok (.aload_n 0, 1) := by decide +kernel
theorem dX9_forget_1 : decode cX9_forget 1 = .ok (.iconst 0, 1) := by decide +kernel
theorem dX9_forget_2 : decode cX9_forget 2 = .ok (.putfield 24, 3) := by decide +kernel
theorem dX9_forget_5 : decode cX9_forget 5 = .ok (.return_, 1) := by decide +kernel
set_option maxRecDepth 20000 in
theorem ggX9_growFrom_X9_addRoot : GoodIn wsX9_growFrom wsX9_addRoot := goodIn_r _ [13, 8, 14, 15, 3, 16, 2, 17, 18, 19, 20, 21, 22, 23, 24, 25, 26, 27, 28, 82, 83, 84, 85, 86, 87, 88, 89, 90, 91, 92, 93, 94, 95, 96, 97, 98, 99, 100, 101, 102, 103, 104, 105, 106, 107, 108] (by decide +kernel) (by decide +kernel)
set_option maxRecDepth 20000 in
theorem gX9_growFrom_X9_addRoot : GoodIn wsX9_growFrom (wsV RX9 47 RX9 yX9_addRoot wsX9_addRoot) := goodIn_app (goodIn_of _ (by decide +kernel)) ggX9_growFrom_X9_addRoot
set_option maxRecDepth 20000 in
theorem ggX9_growFrom_X5_readBeginning : GoodIn wsX9_growFrom wsX5_readBeginning := goodIn_r _ [33, 34, 35, 36, 32, 37, 38, 39, 40, 41, 42, 43, 44, 45, 46, 47, 48, 49, 50, 51, 52, 93, 94, 95, 96, 97, 98, 99, 100, 101, 102, 103, 104, 105, 106, 107, 108, 109, 110] (by decide +kernel) (by decide +kernel)
set_option maxRecDepth 20000 in
theorem gX9_growFrom_X5_readBeginning : GoodIn wsX9_growFrom (wsV RX9 51 RX5 yX5_readBeginning wsX5_readBeginning) := goodIn_app (goodIn_of _ (by decide +kernel)) ggX9_growFrom_X5_readBeginning
set_option maxRecDepth 20000 in
theorem ggX9_growFrom_X9_grow : GoodIn wsX9_growFrom wsX9_grow := goodIn_r _ [56, 15, 4, 57, 7, 8, 58, 59, 60, 32, 61, 62, 38, 63, 39, 64, 65, 66, 67, 68, 45, 34, 35, 36, 37, 40, 41, 42, 43, 44, 46, 47, 48, 49, 50, 51, 52, 69, 70, 71, 12, 72, 16, 14, 17, 73, 24, 25, 21, 26, 27, 28, 74, 75, 76, 77, 6, 78, 79, 80, 81, 53, 54, 55, 82, 83, 84, 85, 86, 87, 88, 89, 90, 91, 92, 93, 94, 95, 96, 97, 98, 99, 100, 101, 102, 103, 104, 105, 106, 107, 108, 109, 110] (by decide +kernel) (by decide +kernel)
set_option maxRecDepth 20000 in
theorem gX9_growFrom_X9_grow : GoodIn wsX9_growFrom (wsV RX9 57 RX9 yX9_grow wsX9_grow) := goodIn_app (goodIn_of _ (by decide +kernel)) ggX9_growFrom_X9_grow
theorem dX9_growFrom_0 : decode cX9_growFrom 0 = .ok (.iconst 0, 1) := by decide +kernel
theorem dX9_growFrom_1 : decode cX9_growFrom 1 = .ok (.istore 6, 2) := by decide +kernel
theorem dX9_growFrom_3 : decode cX9_growFrom 3 = .ok (.iconst 0, 1) := by decide +kernel
theorem dX9_growFrom_4 : decode cX9_growFrom 4 = .ok (.istore 7, 2) := by decide +kernel
theorem dX9_growFrom_6 : decode cX9_growFrom 6 = .ok (.iload 7, 2) := by decide +kernel
theorem dX9_growFrom_8 : decode cX9_growFrom 8 = .ok (.iload 4, 2) := by decide +kernel
theorem dX9_growFrom_10 : decode cX9_growFrom 10 = .ok (.if_icmp .ge 20, 3) := by decide +kernel
theorem dX9_growFrom_30 : decode cX9_growFrom 30 = .ok (.aload_n 0, 1) := by decide +kernel
theorem dX9_growFrom_31 : decode cX9_growFrom 31 = .ok (.getfield 24, 3) := by decide +kernel
theorem dX9_growFrom_34 : decode cX9_growFrom 34 = .ok (.ifCond .eq 31, 3) := by decide +kernel
theorem dX9_growFrom_65 : decode cX9_growFrom 65 = .ok (.aload_n 0, 1) := by decide +kernel
theorem dX9_growFrom_66 : decode cX9_growFrom 66 = .ok (.iconst 1, 1) := by decide +kernel
theorem dX9_growFrom_67 : decode cX9_growFrom 67 = .ok (.putfield 24, 3) := by decide +kernel
theorem dX9_growFrom_70 : decode cX9_growFrom 70 = .ok (.aload_n 0, 1) := by decide +kernel
theorem dX9_growFrom_71 : decode cX9_growFrom 71 = .ok (.iload 6, 2) := by decide +kernel
theorem dX9_growFrom_73 : decode cX9_growFrom 73 = .ok (.putfield 28, 3) := by decide +kernel
theorem dX9_growFrom_76 : decode cX9_growFrom 76 = .ok (.aload_n 0, 1) := by decide +kernel
theorem dX9_growFrom_77 : decode cX9_growFrom 77 = .ok (.iload 4, 2) := by decide +kernel
theorem dX9_growFrom_79 : decode cX9_growFrom 79 = .ok (.putfield 32, 3) := by decide +kernel
theorem dX9_growFrom_82 : decode cX9_growFrom 82 = .ok (.aload_n 0, 1) := by decide +kernel
theorem dX9_growFrom_83 : decode cX9_growFrom 83 = .ok (.iload 5, 2) := by decide +kernel
theorem dX9_growFrom_85 : decode cX9_growFrom 85 = .ok (.putfield 35, 3) := by decide +kernel
theorem dX9_growFrom_88 : decode cX9_growFrom 88 = .ok (.aload_n 0, 1) := by decide +kernel
theorem dX9_growFrom_89 : decode cX9_growFrom 89 = .ok (.aload_n 1, 1) := by decide +kernel
theorem dX9_growFrom_90 : decode cX9_growFrom 90 = .ok (.getfield 38, 3) := by decide +kernel
theorem dX9_growFrom_93 : decode cX9_growFrom 93 = .ok (.putfield 43, 3) := by decide +kernel
theorem dX9_growFrom_96 : decode cX9_growFrom 96 = .ok (.aload_n 0, 1) := by decide +kernel
theorem dX9_growFrom_97 : decode cX9_growFrom 97 = .ok (.iconst 0, 1) := by decide +kernel
theorem dX9_growFrom_98 : decode cX9_growFrom 98 = .ok (.putfield 44, 3) := by decide +kernel
theorem dX9_growFrom_101 : decode cX9_growFrom 101 = .ok (.aload_n 0, 1) := by decide +kernel
theorem dX9_growFrom_102 : decode cX9_growFrom 102 = .ok (.aload_n 1, 1) := by decide +kernel
theorem dX9_growFrom_103 : decode cX9_growFrom 103 = .ok (.aload_n 3, 1) := by decide +kernel
theorem dX9_growFrom_104 : decode cX9_growFrom 104 = .ok (.invokevirtual 47, 3) := by decide +kernel
theorem dX9_growFrom_107 : decode cX9_growFrom 107 = .ok (.aload_n 2, 1) := by decide +kernel
theorem dX9_growFrom_108 : decode cX9_growFrom 108 = .ok (.aload_n 1, 1) := by decide +kernel
theorem dX9_growFrom_109 : decode cX9_growFrom 109 = .ok (.aload_n 3, 1) := by decide +kernel
theorem dX9_growFrom_110 : decode cX9_growFrom 110 = .ok (.iload 4, 2) := by decide +kernel
theorem dX9_growFrom_112 : decode cX9_growFrom 112 = .ok (.invokevirtual 51, 3) := by decide +kernel
theorem dX9_growFrom_115 : decode cX9_growFrom 115 = .ok (.aload_n 0, 1) := by decide +kernel
theorem dX9_growFrom_116 : decode cX9_growFrom 116 = .ok (.aload_n 1, 1) := by decide +kernel
theorem dX9_growFrom_117 : decode cX9_growFrom 117 = .ok (.aload_n 2, 1) := by decide +kernel
theorem dX9_growFrom_118 : decode cX9_growFrom 118 = .ok (.iconst 0, 1) := by decide +kernel
theorem dX9_growFrom_119 : decode cX9_growFrom 119 = .ok (.invokevirtual 57, 3) := by decide +kernel
theorem dX9_growFrom_122 : decode cX9_growFrom 122 = .ok (.aload_n 0, 1) := by decide +kernel
theorem dX9_growFrom_123 : decode cX9_growFrom 123 = .ok (.getfield 61, 3) := by decide +kernel
theorem dX9_growFrom_126 : decode cX9_growFrom 126 = .ok (.iconst 1, 1) := by decide +kernel
theorem dX9_growFrom_127 : decode cX9_growFrom 127 = .ok (.if_icmp .ne 17, 3) := by decide +kernel
theorem dX9_growFrom_130 : decode cX9_growFrom 130 = .ok (.iload 4, 2) := by decide +kernel
theorem dX9_growFrom_132 : decode cX9_growFrom 132 = .ok (.aload_n 0, 1) := by decide +kernel
theorem dX9_growFrom_133 : decode cX9_growFrom 133 = .ok (.getfield 43, 3) := by decide +kernel
theorem dX9_growFrom_136 : decode cX9_growFrom 136 = .ok (.if_icmp .ge 8, 3) := by decide +kernel
theorem dX9_growFrom_139 : decode cX9_growFrom 139 = .ok (.aload_n 0, 1) := by decide +kernel
theorem dX9_growFrom_140 : decode cX9_growFrom 140 = .ok (.iconst 0, 1) := by decide +kernel
theorem dX9_growFrom_141 : decode cX9_growFrom 141 = .ok (.putfield 61, 3) := by decide +kernel
theorem dX9_growFrom_144 : decode cX9_growFrom 144 = .ok (.return_, 1) := by decide +kernel
set_option maxRecDepth 20000 in
theorem ggX9_addRoot_X4_meaningOf : GoodIn wsX9_addRoot wsX4_meaningOf := goodIn_r _ [12, 13, 14, 15, 11, 16, 17, 18, 30, 31, 32, 33, 34, 35, 36, 37, 38, 39, 40, 41, 42, 43, 44, 45] (by decide +kernel) (by decide +kernel)
set_option maxRecDepth 20000 in
theorem gX9_addRoot_X4_meaningOf : GoodIn wsX9_addRoot (wsV RX9 64 RX4 yX4_meaningOf wsX4_meaningOf) := goodIn_app (goodIn_of _ (by decide +kernel)) ggX9_addRoot_X4_meaningOf
theorem dX9_addRoot_0 : decode cX9_addRoot 0 = .ok (.aload_n 0, 1) := by decide +kernel
theorem dX9_addRoot_1 : decode cX9_addRoot 1 = .ok (.iconst 1, 1) := by decide +kernel
theorem dX9_addRoot_2 : decode cX9_addRoot 2 = .ok (.putfield 61, 3) := by decide +kernel
theorem dX9_addRoot_5 : decode cX9_addRoot 5 = .ok (.aload_n 0, 1) := by decide +kernel
theorem dX9_addRoot_6 : decode cX9_addRoot 6 = .ok (.getfield 9, 3) := by decide +kernel
theorem dX9_addRoot_9 : decode cX9_addRoot 9 = .ok (.iconst 0, 1) := by decide +kernel
theorem dX9_addRoot_10 : decode cX9_addRoot 10 = .ok (.iconst (-1), 1) := by decide +kernel
theorem dX9_addRoot_11 : decode cX9_addRoot 11 = .ok (.iastore, 1) := by decide +kernel
theorem dX9_addRoot_12 : decode cX9_addRoot 12 = .ok (.aload_n 0, 1) := by decide +kernel
theorem dX9_addRoot_13 : decode cX9_addRoot 13 = .ok (.getfield 15, 3) := by decide +kernel
theorem dX9_addRoot_16 : decode cX9_addRoot 16 = .ok (.iconst 0, 1) := by decide +kernel
theorem dX9_addRoot_17 : decode cX9_addRoot 17 = .ok (.aload_n 0, 1) := by decide +kernel
theorem dX9_addRoot_18 : decode cX9_addRoot 18 = .ok (.getfield 32, 3) := by decide +kernel
theorem dX9_addRoot_21 : decode cX9_addRoot 21 = .ok (.iastore, 1) := by decide +kernel
theorem dX9_addRoot_22 : decode cX9_addRoot 22 = .ok (.aload_n 0, 1) := by decide +kernel
theorem dX9_addRoot_23 : decode cX9_addRoot 23 = .ok (.getfield 21, 3) := by decide +kernel
theorem dX9_addRoot_26 : decode cX9_addRoot 26 = .ok (.iconst 0, 1) := by decide +kernel
theorem dX9_addRoot_27 : decode cX9_addRoot 27 = .ok (.aload_n 0, 1) := by decide +kernel
theorem dX9_addRoot_28 : decode cX9_addRoot 28 = .ok (.getfield 28, 3) := by decide +kernel
theorem dX9_addRoot_31 : decode cX9_addRoot 31 = .ok (.iastore, 1) := by decide +kernel
theorem dX9_addRoot_32 : decode cX9_addRoot 32 = .ok (.iconst 0, 1) := by decide +kernel
theorem dX9_addRoot_33 : decode cX9_addRoot 33 = .ok (.istore_n 3, 1) := by decide +kernel
theorem dX9_addRoot_34 : decode cX9_addRoot 34 = .ok (.iload_n 3, 1) := by decide +kernel
theorem dX9_addRoot_35 : decode cX9_addRoot 35 = .ok (.iconst 3, 1) := by decide +kernel
theorem dX9_addRoot_36 : decode cX9_addRoot 36 = .ok (.if_icmp .ge 25, 3) := by decide +kernel
theorem dX9_addRoot_39 : decode cX9_addRoot 39 = .ok (.aload_n 0, 1) := by decide +kernel
theorem dX9_addRoot_40 : decode cX9_addRoot 40 = .ok (.getfield 18, 3) := by decide +kernel
theorem dX9_addRoot_43 : decode cX9_addRoot 43 = .ok (.iload_n 3, 1) := by decide +kernel
theorem dX9_addRoot_44 : decode cX9_addRoot 44 = .ok (.aload_n 1, 1) := by decide +kernel
theorem dX9_addRoot_45 : decode cX9_addRoot 45 = .ok (.aload_n 2, 1) := by decide +kernel
theorem dX9_addRoot_46 : decode cX9_addRoot 46 = .ok (.aload_n 0, 1) := by decide +kernel
theorem dX9_addRoot_47 : decode cX9_addRoot 47 = .ok (.getfield 32, 3) := by decide +kernel
theorem dX9_addRoot_50 : decode cX9_addRoot 50 = .ok (.iload_n 3, 1) := by decide +kernel
theorem dX9_addRoot_51 : decode cX9_addRoot 51 = .ok (.invokevirtual 64, 3) := by decide +kernel
theorem dX9_addRoot_54 : decode cX9_addRoot 54 = .ok (.iastore, 1) := by decide +kernel
theorem dX9_addRoot_55 : decode cX9_addRoot 55 = .ok (.iinc 3 1, 3) := by decide +kernel
theorem dX9_addRoot_58 : decode cX9_addRoot 58 = .ok (.goto (-24), 3) := by decide +kernel
theorem dX9_addRoot_61 : decode cX9_addRoot 61 = .ok (.return_, 1) := by decide +kernel
set_option maxRecDepth 20000 in
theorem ggX9_grow_X5_nextWords : GoodIn wsX9_grow wsX5_nextWords := goodIn_r _ [10, 11, 12, 13, 14, 15, 16, 17, 18, 19, 20, 21, 22, 23, 9, 24, 25, 26, 27, 28, 29, 30, 31, 32, 33, 34, 35, 36, 75, 76, 77, 78, 79, 80, 81, 82, 83, 84, 85, 86, 87, 88, 89, 90, 91, 92] (by decide +kernel) (by decide +kernel)
set_option maxRecDepth 20000 in
theorem gX9_grow_X5_nextWords : GoodIn wsX9_grow (wsV RX9 68 RX5 yX5_nextWords wsX5_nextWords) := goodIn_app (goodIn_of _ (by decide +kernel)) ggX9_grow_X5_nextWords
theorem dX9_grow_0 : decode cX9_grow 0 = .ok (.aload_n 0, 1) := by decide +kernel
theorem dX9_grow_1 : decode cX9_grow 1 = .ok (.getfield 15, 3) := by decide +kernel
theorem dX9_grow_4 : decode cX9_grow 4 = .ok (.iload_n 3, 1) := by decide +kernel
theorem dX9_grow_5 : decode cX9_grow 5 = .ok (.iaload, 1) := by decide +kernel
theorem dX9_grow_6 : decode cX9_grow 6 = .ok (.istore 4, 2) := by decide +kernel
theorem dX9_grow_8 : decode cX9_grow 8 = .ok (.aload_n 2, 1) := by decide +kernel
theorem dX9_grow_9 : decode cX9_grow 9 = .ok (.aload_n 1, 1) := by decide +kernel
theorem dX9_grow_10 : decode cX9_grow 10 = .ok (.iload 4, 2) := by decide +kernel
theorem dX9_grow_12 : decode cX9_grow 12 = .ok (.invokevirtual 68, 3) := by decide +kernel
theorem dX9_grow_15 : decode cX9_grow 15 = .ok (.istore 5, 2) := by decide +kernel
theorem dX9_grow_17 : decode cX9_grow 17 = .ok (.aload_n 0, 1) := by decide +kernel
theorem dX9_grow_18 : decode cX9_grow 18 = .ok (.getfield 35, 3) := by decide +kernel
theorem dX9_grow_21 : decode cX9_grow 21 = .ok (.iload 4, 2) := by decide +kernel
theorem dX9_grow_23 : decode cX9_grow 23 = .ok (.iconst 4, 1) := by decide +kernel
theorem dX9_grow_24 : decode cX9_grow 24 = .ok (.imul, 1) := by decide +kernel
theorem dX9_grow_25 : decode cX9_grow 25 = .ok (.ishr, 1) := by decide +kernel
theorem dX9_grow_26 : decode cX9_grow 26 = .ok (.bipush 15, 2) := by decide +kernel
theorem dX9_grow_28 : decode cX9_grow 28 = .ok (.iand, 1) := by decide +kernel
theorem dX9_grow_29 : decode cX9_grow 29 = .ok (.iconst 1, 1) := by decide +kernel
theorem dX9_grow_30 : decode cX9_grow 30 = .ok (.isub, 1) := by decide +kernel
theorem dX9_grow_31 : decode cX9_grow 31 = .ok (.istore 6, 2) := by decide +kernel
theorem dX9_grow_33 : decode cX9_grow 33 = .ok (.iconst 0, 1) := by decide +kernel
theorem dX9_grow_34 : decode cX9_grow 34 = .ok (.istore 7, 2) := by decide +kernel
theorem dX9_grow_36 : decode cX9_grow 36 = .ok (.iload 7, 2) := by decide +kernel
theorem dX9_grow_38 : decode cX9_grow 38 = .ok (.aload_n 1, 1) := by decide +kernel
theorem dX9_grow_39 : decode cX9_grow 39 = .ok (.getfield 72, 3) := by decide +kernel
theorem dX9_grow_42 : decode cX9_grow 42 = .ok (.if_icmp .ge 75, 3) := by decide +kernel
theorem dX9_grow_117 : decode cX9_grow 117 = .ok (.return_, 1) := by decide +kernel
theorem dX9_hasCharters_0 : decode cX9_hasCharters 0 = .ok (.aload_n 0, 1) := by decide +kernel
theorem dX9_hasCharters_1 : decode cX9_hasCharters 1 = .ok (.getfield 44, 3) := by decide +kernel
theorem dX9_hasCharters_4 : decode cX9_hasCharters 4 = .ok (.ifCond .ne 14, 3) := by decide +kernel
theorem dX9_hasCharters_7 : decode cX9_hasCharters 7 = .ok (.aload_n 0, 1) := by decide +kernel
theorem dX9_hasCharters_8 : decode cX9_hasCharters 8 = .ok (.getfield 61, 3) := by decide +kernel
theorem dX9_hasCharters_11 : decode cX9_hasCharters 11 = .ok (.ifCond .le 7, 3) := by decide +kernel
theorem dX9_hasCharters_18 : decode cX9_hasCharters 18 = .ok (.iconst 0, 1) := by decide +kernel
theorem dX9_hasCharters_19 : decode cX9_hasCharters 19 = .ok (.ireturn, 1) := by decide +kernel
set_option maxRecDepth 20000 in
theorem ggX10_init_X2_init : GoodIn wsX10_init wsX2_init := goodIn_r _ [49, 50, 2, 3, 51, 52, 53, 54, 55, 11, 12, 56, 57, 58, 45, 59, 60, 61, 62, 63, 4, 64, 65, 66, 67, 68, 69, 70, 71, 72, 73, 74, 75, 76, 77, 78, 79, 80, 81, 82, 83, 84, 85, 86, 87, 88, 89, 90, 91, 92, 93, 94, 95, 96, 97, 98, 99, 100, 101, 102, 103, 104, 105, 106, 107, 108, 109, 110, 111, 112, 113, 114, 115, 116, 117, 118, 119, 120, 121, 122, 123, 124, 125, 126, 127, 128, 129, 130, 131, 132, 268, 269, 270, 271, 272, 273, 274, 275, 276, 277, 203, 204, 205, 206, 207, 208, 209, 210, 211, 212, 213, 214, 215, 216, 217, 218, 219, 220, 221, 222] (by decide +kernel) (by decide +kernel)
set_option maxRecDepth 20000 in
theorem gX10_init_X2_init_n15 : GoodIn wsX10_init (wsX2_init) := ggX10_init_X2_init
set_option maxRecDepth 20000 in
theorem ggX10_init_X4_init : GoodIn wsX10_init wsX4_init := goodIn_r _ [120, 121, 2, 3, 57, 122, 45, 123, 124, 125, 126, 127, 128, 129, 130, 131, 132, 207, 208, 209, 210, 211, 212, 213, 214, 215, 216, 217, 218, 219, 220, 221, 222] (by decide +kernel) (by decide +kernel)
set_option maxRecDepth 20000 in
theorem gX10_init_X4_init : GoodIn wsX10_init (wsX4_init) := ggX10_init_X4_init
set_option maxRecDepth 20000 in
theorem ggX10_init_X0_init : GoodIn wsX10_init wsX0_init := goodIn_r _ [136, 137, 2, 3, 45, 138, 139, 124, 140, 141, 142, 143, 144, 145, 146, 147, 223, 224, 225, 226, 227, 228, 229, 230, 231] (by decide +kernel) (by decide +kernel)
set_option maxRecDepth 20000 in
theorem gX10_init_X0_init : GoodIn wsX10_init (wsX0_init) := ggX10_init_X0_init
set_option maxRecDepth 20000 in
theorem ggX10_init_X1_init : GoodIn wsX10_init wsX1_init := goodIn_r _ [149, 150, 2, 3, 45, 151, 152, 232, 233, 234, 235] (by decide +kernel) (by decide +kernel)
set_option maxRecDepth 20000 in
theorem gX10_init_X1_init_n39 : GoodIn wsX10_init (wsX1_init) := ggX10_init_X1_init
set_option maxRecDepth 20000 in
theorem ggX10_init_X5_init : GoodIn wsX10_init wsX5_init := goodIn_r _ [154, 155, 2, 3, 57, 156, 157, 236, 237] (by decide +kernel) (by decide +kernel)
set_option maxRecDepth 20000 in
theorem gX10_init_X5_init_n46 : GoodIn wsX10_init (wsX5_init) := ggX10_init_X5_init
set_option maxRecDepth 20000 in
theorem ggX10_init_X7_init : GoodIn wsX10_init wsX7_init := goodIn_r _ [159, 160, 2, 3, 45, 161, 162, 238, 239, 240] (by decide +kernel) (by decide +kernel)
set_option maxRecDepth 20000 in
theorem gX10_init_X7_init_n53 : GoodIn wsX10_init (wsX7_init) := ggX10_init_X7_init
set_option maxRecDepth 20000 in
theorem ggX10_init_X3_init : GoodIn wsX10_init wsX3_init := goodIn_r _ [164, 165, 2, 3, 45, 166, 167, 168, 169, 241, 242, 243, 244, 245, 246, 247, 248, 249] (by decide +kernel) (by decide +kernel)
set_option maxRecDepth 20000 in
theorem gX10_init_X3_init_n60 : GoodIn wsX10_init (wsX3_init) := ggX10_init_X3_init
set_option maxRecDepth 20000 in
theorem ggX10_init_X9_init : GoodIn wsX10_init wsX9_init := goodIn_r _ [171, 172, 2, 3, 45, 173, 174, 175, 176, 250, 251, 252, 253, 254, 255, 256, 257, 258, 259, 260] (by decide +kernel) (by decide +kernel)
set_option maxRecDepth 20000 in
theorem gX10_init_X9_init_n67 : GoodIn wsX10_init (wsX9_init) := ggX10_init_X9_init
set_option maxRecDepth 20000 in
theorem ggX10_init_X6_init : GoodIn wsX10_init wsX6_init := goodIn_r _ [178, 179, 2, 3, 45, 180, 181, 124, 182, 183, 184, 261, 262, 263, 264, 265, 266, 267] (by decide +kernel) (by decide +kernel)
set_option maxRecDepth 20000 in
theorem gX10_init_X6_init_n80 : GoodIn wsX10_init (wsX6_init) := ggX10_init_X6_init
theorem dX10_init_0 : decode cX10_init 0 = .ok (.aload_n 0, 1) := by decide +kernel
theorem dX10_init_1 : decode cX10_init 1 = .ok (.invokespecial 1, 3) := by decide +kernel
theorem dX10_init_4 : decode cX10_init 4 = .ok (.aload_n 0, 1) := by decide +kernel
theorem dX10_init_5 : decode cX10_init 5 = .ok (.sipush 1600, 3) := by decide +kernel
theorem dX10_init_8 : decode cX10_init 8 = .ok (.newarray .byte, 2) := by decide +kernel
theorem dX10_init_10 : decode cX10_init 10 = .ok (.putfield 9, 3) := by decide +kernel
theorem dX10_init_13 : decode cX10_init 13 = .ok (.aload_n 0, 1) := by decide +kernel
theorem dX10_init_14 : decode cX10_init 14 = .ok (.new 13, 3) := by decide +kernel
theorem dX10_init_17 : decode cX10_init 17 = .ok (.dup, 1) := by decide +kernel
theorem dX10_init_18 : decode cX10_init 18 = .ok (.invokespecial 15, 3) := by decide +kernel
theorem dX10_init_21 : decode cX10_init 21 = .ok (.putfield 16, 3) := by decide +kernel
theorem dX10_init_24 : decode cX10_init 24 = .ok (.aload_n 0, 1) := by decide +kernel
theorem dX10_init_25 : decode cX10_init 25 = .ok (.new 20, 3) := by decide +kernel
theorem dX10_init_28 : decode cX10_init 28 = .ok (.dup, 1) := by decide +kernel
theorem dX10_init_29 : decode cX10_init 29 = .ok (.invokespecial 22, 3) := by decide +kernel
theorem dX10_init_32 : decode cX10_init 32 = .ok (.putfield 23, 3) := by decide +kernel
theorem dX10_init_35 : decode cX10_init 35 = .ok (.aload_n 0, 1) := by decide +kernel
theorem dX10_init_36 : decode cX10_init 36 = .ok (.new 20, 3) := by decide +kernel
theorem dX10_init_39 : decode cX10_init 39 = .ok (.dup, 1) := by decide +kernel
theorem dX10_init_40 : decode cX10_init 40 = .ok (.invokespecial 22, 3) := by decide +kernel
theorem dX10_init_43 : decode cX10_init 43 = .ok (.putfield 27, 3) := by decide +kernel
theorem dX10_init_46 : decode cX10_init 46 = .ok (.aload_n 0, 1) := by decide +kernel
theorem dX10_init_47 : decode cX10_init 47 = .ok (.new 30, 3) := by decide +kernel
theorem dX10_init_50 : decode cX10_init 50 = .ok (.dup, 1) := by decide +kernel
theorem dX10_init_51 : decode cX10_init 51 = .ok (.invokespecial 32, 3) := by decide +kernel
theorem dX10_init_54 : decode cX10_init 54 = .ok (.putfield 33, 3) := by decide +kernel
theorem dX10_init_57 : decode cX10_init 57 = .ok (.aload_n 0, 1) := by decide +kernel
theorem dX10_init_58 : decode cX10_init 58 = .ok (.iconst 3, 1) := by decide +kernel
theorem dX10_init_59 : decode cX10_init 59 = .ok (.anewarray 37, 3) := by decide +kernel
theorem dX10_init_62 : decode cX10_init 62 = .ok (.dup, 1) := by decide +kernel
theorem dX10_init_63 : decode cX10_init 63 = .ok (.iconst 0, 1) := by decide +kernel
theorem dX10_init_64 : decode cX10_init 64 = .ok (.new 37, 3) := by decide +kernel
theorem dX10_init_67 : decode cX10_init 67 = .ok (.dup, 1) := by decide +kernel
theorem dX10_init_68 : decode cX10_init 68 = .ok (.invokespecial 39, 3) := by decide +kernel
theorem dX10_init_71 : decode cX10_init 71 = .ok (.aastore, 1) := by decide +kernel
theorem dX10_init_72 : decode cX10_init 72 = .ok (.dup, 1) := by decide +kernel
theorem dX10_init_73 : decode cX10_init 73 = .ok (.iconst 1, 1) := by decide +kernel
theorem dX10_init_74 : decode cX10_init 74 = .ok (.new 37, 3) := by decide +kernel
theorem dX10_init_77 : decode cX10_init 77 = .ok (.dup, 1) := by decide +kernel
theorem dX10_init_78 : decode cX10_init 78 = .ok (.invokespecial 39, 3) := by decide +kernel
theorem dX10_init_81 : decode cX10_init 81 = .ok (.aastore, 1) := by decide +kernel
theorem dX10_init_82 : decode cX10_init 82 = .ok (.dup, 1) := by decide +kernel
theorem dX10_init_83 : decode cX10_init 83 = .ok (.iconst 2, 1) := by decide +kernel
theorem dX10_init_84 : decode cX10_init 84 = .ok (.new 37, 3) := by decide +kernel
theorem dX10_init_87 : decode cX10_init 87 = .ok (.dup, 1) := by decide +kernel
theorem dX10_init_88 : decode cX10_init 88 = .ok (.invokespecial 39, 3) := by decide +kernel
theorem dX10_init_91 : decode cX10_init 91 = .ok (.aastore, 1) := by decide +kernel
theorem dX10_init_92 : decode cX10_init 92 = .ok (.putfield 40, 3) := by decide +kernel
theorem dX10_init_95 : decode cX10_init 95 = .ok (.aload_n 0, 1) := by decide +kernel
theorem dX10_init_96 : decode cX10_init 96 = .ok (.new 44, 3) := by decide +kernel
theorem dX10_init_99 : decode cX10_init 99 = .ok (.dup, 1) := by decide +kernel
theorem dX10_init_100 : decode cX10_init 100 = .ok (.invokespecial 46, 3) := by decide +kernel
theorem dX10_init_103 : decode cX10_init 103 = .ok (.putfield 47, 3) := by decide +kernel
theorem dX10_init_106 : decode cX10_init 106 = .ok (.aload_n 0, 1) := by decide +kernel
theorem dX10_init_107 : decode cX10_init 107 = .ok (.new 51, 3) := by decide +kernel
theorem dX10_init_110 : decode cX10_init 110 = .ok (.dup, 1) := by decide +kernel
theorem dX10_init_111 : decode cX10_init 111 = .ok (.invokespecial 53, 3) := by decide +kernel
theorem dX10_init_114 : decode cX10_init 114 = .ok (.putfield 54, 3) := by decide +kernel
theorem dX10_init_117 : decode cX10_init 117 = .ok (.aload_n 0, 1) := by decide +kernel
theorem dX10_init_118 : decode cX10_init 118 = .ok (.new 58, 3) := by decide +kernel
