set_option maxRecDepth 20000 in
theorem ggX9_init_X6_init : GoodIn wsX9_init wsX6_init := goodIn_r _ [39, 40, 2, 3, 41, 42, 85, 86] (by decide +kernel) (by decide +kernel)
set_option maxRecDepth 20000 in
theorem gX9_init_X6_init_n11 : GoodIn wsX9_init (wsX6_init) := ggX9_init_X6_init
set_option maxRecDepth 20000 in
theorem ggX9_init_X7_init : GoodIn wsX9_init wsX7_init := goodIn_r _ [44, 45, 2, 3, 41, 46, 47, 48, 97, 98, 99, 100, 101, 102, 103, 104] (by decide +kernel) (by decide +kernel)
set_option maxRecDepth 20000 in
theorem gX9_init_X7_init_n18 : GoodIn wsX9_init (wsX7_init) := ggX9_init_X7_init
set_option maxRecDepth 20000 in
theorem ggX9_init_X4_init : GoodIn wsX9_init wsX4_init := goodIn_r _ [50, 51, 2, 3, 41, 52, 53, 54, 55, 56, 57, 105, 106, 107, 108, 109, 110, 111, 112, 113] (by decide +kernel) (by decide +kernel)
set_option maxRecDepth 20000 in
theorem gX9_init_X4_init_n25 : GoodIn wsX9_init (wsX4_init) := ggX9_init_X4_init
set_option maxRecDepth 20000 in
theorem ggX9_init_X0_init : GoodIn wsX9_init wsX0_init := goodIn_r _ [59, 60, 2, 3, 41, 61, 114, 115, 116] (by decide +kernel) (by decide +kernel)
set_option maxRecDepth 20000 in
theorem gX9_init_X0_init_n32 : GoodIn wsX9_init (wsX0_init) := ggX9_init_X0_init
set_option maxRecDepth 20000 in
theorem ggX9_init_X5_init : GoodIn wsX9_init wsX5_init := goodIn_r _ [63, 64, 2, 3, 41, 65, 66, 117, 118, 119] (by decide +kernel) (by decide +kernel)
set_option maxRecDepth 20000 in
theorem gX9_init_X5_init_n39 : GoodIn wsX9_init (wsX5_init) := ggX9_init_X5_init
set_option maxRecDepth 20000 in
theorem ggX9_init_X2_init : GoodIn wsX9_init wsX2_init := goodIn_r _ [68, 69, 2, 3] (by decide +kernel) (by decide +kernel)
set_option maxRecDepth 20000 in
theorem gX9_init_X2_init_n46 : GoodIn wsX9_init (wsX2_init) := ggX9_init_X2_init
set_option maxRecDepth 20000 in
theorem ggX9_init_X1_init : GoodIn wsX9_init wsX1_init := goodIn_r _ [71, 72, 2, 3, 41, 73, 74, 21, 22, 75, 62, 63, 64, 65, 66, 121, 122, 123, 124, 125, 117, 118, 119] (by decide +kernel) (by decide +kernel)
set_option maxRecDepth 20000 in
theorem gX9_init_X1_init_n57 : GoodIn wsX9_init (wsX1_init) := ggX9_init_X1_init
set_option maxRecDepth 20000 in
theorem ggX9_init_X8_init : GoodIn wsX9_init wsX8_init := goodIn_r _ [77, 78, 2, 3, 41, 79, 80, 81, 82, 83, 84, 126, 127, 128, 129, 130, 131, 132, 133, 134, 135] (by decide +kernel) (by decide +kernel)
set_option maxRecDepth 20000 in
theorem gX9_init_X8_init_n60 : GoodIn wsX9_init (wsX8_init) := ggX9_init_X8_init
theorem dX9_init_0 : decode cX9_init 0 = .ok (.aload_n 0, 1) := by decide +kernel
theorem dX9_init_1 : decode cX9_init 1 = .ok (.invokespecial 3, 3) := by decide +kernel
theorem dX9_init_4 : decode cX9_init 4 = .ok (.aload_n 0, 1) := by decide +kernel
theorem dX9_init_5 : decode cX9_init 5 = .ok (.new 9, 3) := by decide +kernel
theorem dX9_init_8 : decode cX9_init 8 = .ok (.dup, 1) := by decide +kernel
theorem dX9_init_9 : decode cX9_init 9 = .ok (.invokespecial 11, 3) := by decide +kernel
theorem dX9_init_12 : decode cX9_init 12 = .ok (.putfield 12, 3) := by decide +kernel
theorem dX9_init_15 : decode cX9_init 15 = .ok (.aload_n 0, 1) := by decide +kernel
theorem dX9_init_16 : decode cX9_init 16 = .ok (.new 16, 3) := by decide +kernel
theorem dX9_init_19 : decode cX9_init 19 = .ok (.dup, 1) := by decide +kernel
theorem dX9_init_20 : decode cX9_init 20 = .ok (.invokespecial 18, 3) := by decide +kernel
theorem dX9_init_23 : decode cX9_init 23 = .ok (.putfield 19, 3) := by decide +kernel
theorem dX9_init_26 : decode cX9_init 26 = .ok (.aload_n 0, 1) := by decide +kernel
theorem dX9_init_27 : decode cX9_init 27 = .ok (.new 23, 3) := by decide +kernel
theorem dX9_init_30 : decode cX9_init 30 = .ok (.dup, 1) := by decide +kernel
theorem dX9_init_31 : decode cX9_init 31 = .ok (.invokespecial 25, 3) := by decide +kernel
theorem dX9_init_34 : decode cX9_init 34 = .ok (.putfield 26, 3) := by decide +kernel
theorem dX9_init_37 : decode cX9_init 37 = .ok (.aload_n 0, 1) := by decide +kernel
theorem dX9_init_38 : decode cX9_init 38 = .ok (.new 30, 3) := by decide +kernel
theorem dX9_init_41 : decode cX9_init 41 = .ok (.dup, 1) := by decide +kernel
theorem dX9_init_42 : decode cX9_init 42 = .ok (.invokespecial 32, 3) := by decide +kernel
theorem dX9_init_45 : decode cX9_init 45 = .ok (.putfield 33, 3) := by decide +kernel
theorem dX9_init_48 : decode cX9_init 48 = .ok (.aload_n 0, 1) := by decide +kernel
theorem dX9_init_49 : decode cX9_init 49 = .ok (.new 37, 3) := by decide +kernel
theorem dX9_init_52 : decode cX9_init 52 = .ok (.dup, 1) := by decide +kernel
theorem dX9_init_53 : decode cX9_init 53 = .ok (.invokespecial 39, 3) := by decide +kernel
theorem dX9_init_56 : decode cX9_init 56 = .ok (.putfield 40, 3) := by decide +kernel
theorem dX9_init_59 : decode cX9_init 59 = .ok (.aload_n 0, 1) := by decide +kernel
theorem dX9_init_60 : decode cX9_init 60 = .ok (.new 44, 3) := by decide +kernel
theorem dX9_init_63 : decode cX9_init 63 = .ok (.dup, 1) := by decide +kernel
theorem dX9_init_64 : decode cX9_init 64 = .ok (.invokespecial 46, 3) := by decide +kernel
theorem dX9_init_67 : decode cX9_init 67 = .ok (.putfield 47, 3) := by decide +kernel
theorem dX9_init_70 : decode cX9_init 70 = .ok (.aload_n 0, 1) := by decide +kernel
theorem dX9_init_71 : decode cX9_init 71 = .ok (.iconst 2, 1) := by decide +kernel
theorem dX9_init_72 : decode cX9_init 72 = .ok (.anewarray 51, 3) := by decide +kernel
theorem dX9_init_75 : decode cX9_init 75 = .ok (.putfield 53, 3) := by decide +kernel
theorem dX9_init_78 : decode cX9_init 78 = .ok (.iconst 0, 1) := by decide +kernel
theorem dX9_init_79 : decode cX9_init 79 = .ok (.istore_n 1, 1) := by decide +kernel
theorem dX9_init_80 : decode cX9_init 80 = .ok (.iload_n 1, 1) := by decide +kernel
theorem dX9_init_81 : decode cX9_init 81 = .ok (.aload_n 0, 1) := by decide +kernel
theorem dX9_init_82 : decode cX9_init 82 = .ok (.getfield 53, 3) := by decide +kernel
theorem dX9_init_85 : decode cX9_init 85 = .ok (.arraylength, 1) := by decide +kernel
theorem dX9_init_86 : decode cX9_init 86 = .ok (.if_icmp .ge 22, 3) := by decide +kernel
theorem dX9_init_89 : decode cX9_init 89 = .ok (.aload_n 0, 1) := by decide +kernel
theorem dX9_init_90 : decode cX9_init 90 = .ok (.getfield 53, 3) := by decide +kernel
theorem dX9_init_93 : decode cX9_init 93 = .ok (.iload_n 1, 1) := by decide +kernel
theorem dX9_init_94 : decode cX9_init 94 = .ok (.new 51, 3) := by decide +kernel
theorem dX9_init_97 : decode cX9_init 97 = .ok (.dup, 1) := by decide +kernel
theorem dX9_init_98 : decode cX9_init 98 = .ok (.invokespecial 57, 3) := by decide +kernel
theorem dX9_init_101 : decode cX9_init 101 = .ok (.aastore, 1) := by decide +kernel
theorem dX9_init_102 : decode cX9_init 102 = .ok (.iinc 1 1, 3) := by decide +kernel
theorem dX9_init_105 : decode cX9_init 105 = .ok (.goto (-25), 3) := by decide +kernel
theorem dX9_init_108 : decode cX9_init 108 = .ok (.aload_n 0, 1) := by decide +kernel
theorem dX9_init_109 : decode cX9_init 109 = .ok (.new 58, 3) := by decide +kernel
theorem dX9_init_112 : decode cX9_init 112 = .ok (.dup, 1) := by decide +kernel
theorem dX9_init_113 : decode cX9_init 113 = .ok (.invokespecial 60, 3) := by decide +kernel
theorem dX9_init_116 : decode cX9_init 116 = .ok (.putfield 61, 3) := by decide +kernel
theorem dX9_init_119 : decode cX9_init 119 = .ok (.aload_n 0, 1) := by decide +kernel
theorem dX9_init_120 : decode cX9_init 120 = .ok (.new 58, 3) := by decide +kernel
theorem dX9_init_123 : decode cX9_init 123 = .ok (.dup, 1) := by decide +kernel
theorem dX9_init_124 : decode cX9_init 124 = .ok (.invokespecial 60, 3) := by decide +kernel
theorem dX9_init_127 : decode cX9_init 127 = .ok (.putfield 65, 3) := by decide +kernel
theorem dX9_init_130 : decode cX9_init 130 = .ok (.aload_n 0, 1) := by decide +kernel
theorem dX9_init_131 : decode cX9_init 131 = .ok (.iconst 1, 1) := by decide +kernel
theorem dX9_init_132 : decode cX9_init 132 = .ok (.putfield 68, 3) := by decide +kernel
theorem dX9_init_135 : decode cX9_init 135 = .ok (.return_, 1) := by decide +kernel
set_option maxRecDepth 20000 in
theorem ggX9_type_X6_append : GoodIn wsX9_type wsX6_append := goodIn_r _ [6, 7, 8, 19, 20] (by decide +kernel) (by decide +kernel)
set_option maxRecDepth 20000 in
theorem gX9_type_X6_append : GoodIn wsX9_type (wsV RX9 72 RX6 yX6_append wsX6_append) := goodIn_app (goodIn_of _ (by decide +kernel)) ggX9_type_X6_append
theorem dX9_type_0 : decode cX9_type 0 = .ok (.iload_n 3, 1) := by decide +kernel
theorem dX9_type_1 : decode cX9_type 1 = .ok (.iconst 1, 1) := by decide +kernel
theorem dX9_type_2 : decode cX9_type 2 = .ok (.if_icmp .lt 9, 3) := by decide +kernel
theorem dX9_type_5 : decode cX9_type 5 = .ok (.iload_n 3, 1) := by decide +kernel
theorem dX9_type_6 : decode cX9_type 6 = .ok (.bipush 8, 2) := by decide +kernel
theorem dX9_type_8 : decode cX9_type 8 = .ok (.if_icmp .le 5, 3) := by decide +kernel
theorem dX9_type_11 : decode cX9_type 11 = .ok (.iconst (-1), 1) := by decide +kernel
theorem dX9_type_12 : decode cX9_type 12 = .ok (.ireturn, 1) := by decide +kernel
theorem dX9_type_13 : decode cX9_type 13 = .ok (.aload_n 0, 1) := by decide +kernel
theorem dX9_type_14 : decode cX9_type 14 = .ok (.getfield 12, 3) := by decide +kernel
theorem dX9_type_17 : decode cX9_type 17 = .ok (.lload_n 1, 1) := by decide +kernel
theorem dX9_type_18 : decode cX9_type 18 = .ok (.iload_n 3, 1) := by decide +kernel
theorem dX9_type_19 : decode cX9_type 19 = .ok (.invokevirtual 72, 3) := by decide +kernel
theorem dX9_type_22 : decode cX9_type 22 = .ok (.ifCond .eq 13, 3) := by decide +kernel
theorem dX9_type_25 : decode cX9_type 25 = .ok (.aload_n 0, 1) := by decide +kernel
theorem dX9_type_26 : decode cX9_type 26 = .ok (.getfield 12, 3) := by decide +kernel
theorem dX9_type_29 : decode cX9_type 29 = .ok (.getfield 76, 3) := by decide +kernel
theorem dX9_type_32 : decode cX9_type 32 = .ok (.goto 5, 3) := by decide +kernel
theorem dX9_type_35 : decode cX9_type 35 = .ok (.bipush (-3), 2) := by decide +kernel
theorem dX9_type_37 : decode cX9_type 37 = .ok (.ireturn, 1) := by decide +kernel
set_option maxRecDepth 20000 in
theorem ggX9_clear_X6_empty : GoodIn wsX9_clear wsX6_empty := goodIn_r _ [6, 7, 18, 19] (by decide +kernel) (by decide +kernel)
set_option maxRecDepth 20000 in
theorem gX9_clear_X6_empty : GoodIn wsX9_clear (wsV RX9 79 RX6 yX6_empty wsX6_empty) := goodIn_app (goodIn_of _ (by decide +kernel)) ggX9_clear_X6_empty
theorem dX9_clear_0 : decode cX9_clear 0 = .ok (.aload_n 0, 1) := by decide +kernel
theorem dX9_clear_1 : decode cX9_clear 1 = .ok (.getfield 12, 3) := by decide +kernel
theorem dX9_clear_4 : decode cX9_clear 4 = .ok (.invokevirtual 79, 3) := by decide +kernel
theorem dX9_clear_7 : decode cX9_clear 7 = .ok (.ireturn, 1) := by decide +kernel
set_option maxRecDepth 20000 in
theorem ggX9_town_X8_raze : GoodIn wsX9_town wsX8_raze := goodIn_r _ [11, 12, 13, 14, 15, 207, 208, 209, 210, 211, 212, 213, 214, 215, 216] (by decide +kernel) (by decide +kernel)
set_option maxRecDepth 20000 in
theorem gX9_town_X8_raze : GoodIn wsX9_town (wsV RX9 83 RX8 yX8_raze wsX8_raze) := goodIn_app (goodIn_of _ (by decide +kernel)) ggX9_town_X8_raze
set_option maxRecDepth 20000 in
theorem ggX9_town_X7_split : GoodIn wsX9_town wsX7_split := goodIn_r _ [20, 21, 22, 23, 24, 25, 26, 27, 28, 29, 30, 31, 19, 32, 33, 34, 35, 36, 37, 38, 39, 40, 41, 42, 43, 44, 45, 46, 47, 48, 49, 50, 51, 52, 53, 54, 55, 56, 57, 58, 59, 60, 61, 62, 63, 64, 65, 66, 67, 68, 69, 70, 71, 72, 73, 74, 75, 76, 77, 78, 79, 80, 81, 82, 83, 84, 85, 86, 87, 88, 89, 90, 91, 92, 93, 94, 95, 96, 97, 98, 99, 100, 101, 102, 103, 104, 105, 106, 107, 108, 109, 110, 217, 218, 219, 220, 221, 222, 223, 224, 225, 226] (by decide +kernel) (by decide +kernel)
set_option maxRecDepth 20000 in
theorem gX9_town_X7_split : GoodIn wsX9_town (wsV RX9 86 RX7 yX7_split wsX7_split) := goodIn_app (goodIn_of _ (by decide +kernel)) ggX9_town_X7_split
set_option maxRecDepth 20000 in
theorem ggX9_town_X3_readAll : GoodIn wsX9_town wsX3_readAll := goodIn_r _ [114, 115, 116, 117, 19, 118, 22, 21, 24, 119, 120, 113, 121, 122, 123, 124, 125, 126, 127, 128, 129, 130, 131, 132, 133, 134, 135, 26, 136, 137, 138, 139, 140, 141, 142, 10, 143, 13, 144, 145, 146, 147, 148, 149, 150, 151, 152, 12, 153, 154, 155, 156, 157, 158, 159, 160, 161, 162, 163, 164, 165, 166, 167, 168, 169, 170, 171, 172, 173, 174, 175, 176, 177, 178, 179, 180, 181, 27, 217, 218, 219, 220, 221, 222, 223, 224, 207, 208, 209, 210, 211, 212, 213, 214, 215, 216] (by decide +kernel) (by decide +kernel)
set_option maxRecDepth 20000 in
theorem gX9_town_X3_readAll : GoodIn wsX9_town (va_wsS RX9 90 yX3_readAll wsX3_readAll) := goodIn_app (goodIn_of _ (by decide +kernel)) ggX9_town_X3_readAll
set_option maxRecDepth 20000 in
theorem ggX9_town_X6_empty : GoodIn wsX9_town wsX6_empty := goodIn_r _ [185, 38, 225, 226] (by decide +kernel) (by decide +kernel)
set_option maxRecDepth 20000 in
theorem gX9_town_X6_empty : GoodIn wsX9_town (wsV RX9 79 RX6 yX6_empty wsX6_empty) := goodIn_app (goodIn_of _ (by decide +kernel)) ggX9_town_X6_empty
set_option maxRecDepth 20000 in
theorem ggX9_town_X5_empty : GoodIn wsX9_town wsX5_empty := goodIn_r _ [190, 191, 227, 228, 229] (by decide +kernel) (by decide +kernel)
set_option maxRecDepth 20000 in
theorem gX9_town_X5_empty : GoodIn wsX9_town (wsV RX9 96 RX5 yX5_empty wsX5_empty) := goodIn_app (goodIn_of _ (by decide +kernel)) ggX9_town_X5_empty
theorem dX9_town_0 : decode cX9_town 0 = .ok (.aload_n 0, 1) := by decide +kernel
theorem dX9_town_1 : decode cX9_town 1 = .ok (.getfield 65, 3) := by decide +kernel
theorem dX9_town_4 : decode cX9_town 4 = .ok (.invokevirtual 83, 3) := by decide +kernel
theorem dX9_town_7 : decode cX9_town 7 = .ok (.aload_n 0, 1) := by decide +kernel
theorem dX9_town_8 : decode cX9_town 8 = .ok (.getfield 19, 3) := by decide +kernel
theorem dX9_town_11 : decode cX9_town 11 = .ok (.aload_n 0, 1) := by decide +kernel
theorem dX9_town_12 : decode cX9_town 12 = .ok (.getfield 12, 3) := by decide +kernel
theorem dX9_town_15 : decode cX9_town 15 = .ok (.invokevirtual 86, 3) := by decide +kernel
theorem dX9_town_18 : decode cX9_town 18 = .ok (.aload_n 0, 1) := by decide +kernel
theorem dX9_town_19 : decode cX9_town 19 = .ok (.getfield 19, 3) := by decide +kernel
theorem dX9_town_22 : decode cX9_town 22 = .ok (.aload_n 0, 1) := by decide +kernel
theorem dX9_town_23 : decode cX9_town 23 = .ok (.getfield 65, 3) := by decide +kernel
theorem dX9_town_26 : decode cX9_town 26 = .ok (.invokestatic 90, 3) := by decide +kernel
theorem dX9_town_29 : decode cX9_town 29 = .ok (.istore_n 1, 1) := by decide +kernel
theorem dX9_town_30 : decode cX9_town 30 = .ok (.iload_n 1, 1) := by decide +kernel
theorem dX9_town_31 : decode cX9_town 31 = .ok (.ifCond .ge 5, 3) := by decide +kernel
theorem dX9_town_34 : decode cX9_town 34 = .ok (.iload_n 1, 1) := by decide +kernel
theorem dX9_town_35 : decode cX9_town 35 = .ok (.ireturn, 1) := by decide +kernel
theorem dX9_town_36 : decode cX9_town 36 = .ok (.aload_n 0, 1) := by decide +kernel
theorem dX9_town_37 : decode cX9_town 37 = .ok (.getfield 61, 3) := by decide +kernel
theorem dX9_town_40 : decode cX9_town 40 = .ok (.astore_n 2, 1) := by decide +kernel
theorem dX9_town_41 : decode cX9_town 41 = .ok (.aload_n 0, 1) := by decide +kernel
theorem dX9_town_42 : decode cX9_town 42 = .ok (.aload_n 0, 1) := by decide +kernel
theorem dX9_town_43 : decode cX9_town 43 = .ok (.getfield 65, 3) := by decide +kernel
theorem dX9_town_46 : decode cX9_town 46 = .ok (.putfield 61, 3) := by decide +kernel
theorem dX9_town_49 : decode cX9_town 49 = .ok (.aload_n 0, 1) := by decide +kernel
theorem dX9_town_50 : decode cX9_town 50 = .ok (.aload_n 2, 1) := by decide +kernel
theorem dX9_town_51 : decode cX9_town 51 = .ok (.putfield 65, 3) := by decide +kernel
theorem dX9_town_54 : decode cX9_town 54 = .ok (.aload_n 0, 1) := by decide +kernel
theorem dX9_town_55 : decode cX9_town 55 = .ok (.getfield 12, 3) := by decide +kernel
theorem dX9_town_58 : decode cX9_town 58 = .ok (.invokevirtual 79, 3) := by decide +kernel
theorem dX9_town_61 : decode cX9_town 61 = .ok (.pop, 1) := by decide +kernel
theorem dX9_town_62 : decode cX9_town 62 = .ok (.aload_n 0, 1) := by decide +kernel
theorem dX9_town_63 : decode cX9_town 63 = .ok (.getfield 40, 3) := by decide +kernel
theorem dX9_town_66 : decode cX9_town 66 = .ok (.invokevirtual 96, 3) := by decide +kernel
theorem dX9_town_69 : decode cX9_town 69 = .ok (.pop, 1) := by decide +kernel
theorem dX9_town_70 : decode cX9_town 70 = .ok (.iconst 0, 1) := by decide +kernel
theorem dX9_town_71 : decode cX9_town 71 = .ok (.istore_n 3, 1) := by decide +kernel
theorem dX9_town_72 : decode cX9_town 72 = .ok (.iload_n 3, 1) := by decide +kernel
theorem dX9_town_73 : decode cX9_town 73 = .ok (.aload_n 0, 1) := by decide +kernel
theorem dX9_town_74 : decode cX9_town 74 = .ok (.getfield 53, 3) := by decide +kernel
theorem dX9_town_77 : decode cX9_town 77 = .ok (.arraylength, 1) := by decide +kernel
theorem dX9_town_78 : decode cX9_town 78 = .ok (.if_icmp .ge 19, 3) := by decide +kernel
theorem dX9_town_81 : decode cX9_town 81 = .ok (.aload_n 0, 1) := by decide +kernel
theorem dX9_town_82 : decode cX9_town 82 = .ok (.getfield 53, 3) := by decide +kernel
theorem dX9_town_85 : decode cX9_town 85 = .ok (.iload_n 3, 1) := by decide +kernel
theorem dX9_town_86 : decode cX9_town 86 = .ok (.aaload, 1) := by decide +kernel
theorem dX9_town_87 : decode cX9_town 87 = .ok (.iconst 0, 1) := by decide +kernel
theorem dX9_town_88 : decode cX9_town 88 = .ok (.putfield 97, 3) := by decide +kernel
theorem dX9_town_91 : decode cX9_town 91 = .ok (.iinc 3 1, 3) := by decide +kernel
theorem dX9_town_94 : decode cX9_town 94 = .ok (.goto (-22), 3) := by decide +kernel
theorem dX9_town_97 : decode cX9_town 97 = .ok (.iload_n 1, 1) := by decide +kernel
theorem dX9_town_98 : decode cX9_town 98 = .ok (.ireturn, 1) := by decide +kernel
set_option maxRecDepth 20000 in
theorem ggX9_house_X8_hasHouse : GoodIn wsX9_house wsX8_hasHouse := goodIn_r _ [6, 7, 40, 41, 42, 43, 44, 45, 46, 47, 48, 49] (by decide +kernel) (by decide +kernel)
set_option maxRecDepth 20000 in
theorem gX9_house_X8_hasHouse : GoodIn wsX9_house (wsV RX9 101 RX8 yX8_hasHouse wsX8_hasHouse) := goodIn_app (goodIn_of _ (by decide +kernel)) ggX9_house_X8_hasHouse
set_option maxRecDepth 20000 in
theorem ggX9_house_X8_touched : GoodIn wsX9_house wsX8_touched := goodIn_r _ [11, 12, 13, 14, 5, 15, 7, 16, 17, 18, 19, 20, 21, 22, 3, 4, 6, 40, 41, 42, 43, 44, 45, 46, 47, 48, 49] (by decide +kernel) (by decide +kernel)
set_option maxRecDepth 20000 in
theorem gX9_house_X8_touched : GoodIn wsX9_house (wsV RX9 118 RX8 yX8_touched wsX8_touched) := goodIn_app (goodIn_of _ (by decide +kernel)) ggX9_house_X8_touched
set_option maxRecDepth 20000 in
theorem ggX9_house_J6_bitCount_0f7a4 : GoodIn wsX9_house wsJ6_bitCount_0f7a4 := goodIn_r _ [26, 27, 28, 29] (by decide +kernel) (by decide +kernel)
set_option maxRecDepth 20000 in
theorem gX9_house_J6_bitCount_0f7a4 : GoodIn wsX9_house (va_wsS RX9 122 yJ6_bitCount_0f7a4 wsJ6_bitCount_0f7a4) := goodIn_app (goodIn_of _ (by decide +kernel)) ggX9_house_J6_bitCount_0f7a4
theorem dX9_house_0 : decode cX9_house 0 = .ok (.aload_n 0, 1) := by decide +kernel
theorem dX9_house_1 : decode cX9_house 1 = .ok (.getfield 61, 3) := by decide +kernel
theorem dX9_house_4 : decode cX9_house 4 = .ok (.iload_n 1, 1) := by decide +kernel
theorem dX9_house_5 : decode cX9_house 5 = .ok (.invokevirtual 101, 3) := by decide +kernel
theorem dX9_house_8 : decode cX9_house 8 = .ok (.ifCond .ne 5, 3) := by decide +kernel
theorem dX9_house_11 : decode cX9_house 11 = .ok (.iconst (-1), 1) := by decide +kernel
theorem dX9_house_12 : decode cX9_house 12 = .ok (.ireturn, 1) := by decide +kernel
theorem dX9_house_13 : decode cX9_house 13 = .ok (.iload_n 2, 1) := by decide +kernel
theorem dX9_house_14 : decode cX9_house 14 = .ok (.tableswitch 86 0 4 #[34, 44, 54, 64, 74], 34) := by decide +kernel
theorem dX9_house_48 : decode cX9_house 48 = .ok (.aload_n 0, 1) := by decide +kernel
theorem dX9_house_49 : decode cX9_house 49 = .ok (.getfield 61, 3) := by decide +kernel
theorem dX9_house_52 : decode cX9_house 52 = .ok (.getfield 105, 3) := by decide +kernel
theorem dX9_house_55 : decode cX9_house 55 = .ok (.iload_n 1, 1) := by decide +kernel
theorem dX9_house_56 : decode cX9_house 56 = .ok (.iaload, 1) := by decide +kernel
theorem dX9_house_57 : decode cX9_house 57 = .ok (.ireturn, 1) := by decide +kernel
theorem dX9_house_58 : decode cX9_house 58 = .ok (.aload_n 0, 1) := by decide +kernel
theorem dX9_house_59 : decode cX9_house 59 = .ok (.getfield 61, 3) := by decide +kernel
theorem dX9_house_62 : decode cX9_house 62 = .ok (.getfield 109, 3) := by decide +kernel
theorem dX9_house_65 : decode cX9_house 65 = .ok (.iload_n 1, 1) := by decide +kernel
theorem dX9_house_66 : decode cX9_house 66 = .ok (.iaload, 1) := by decide +kernel
theorem dX9_house_67 : decode cX9_house 67 = .ok (.ireturn, 1) := by decide +kernel
theorem dX9_house_68 : decode cX9_house 68 = .ok (.aload_n 0, 1) := by decide +kernel
theorem dX9_house_69 : decode cX9_house 69 = .ok (.getfield 61, 3) := by decide +kernel
theorem dX9_house_72 : decode cX9_house 72 = .ok (.getfield 112, 3) := by decide +kernel
theorem dX9_house_75 : decode cX9_house 75 = .ok (.iload_n 1, 1) := by decide +kernel
theorem dX9_house_76 : decode cX9_house 76 = .ok (.iaload, 1) := by decide +kernel
theorem dX9_house_77 : decode cX9_house 77 = .ok (.ireturn, 1) := by decide +kernel
theorem dX9_house_78 : decode cX9_house 78 = .ok (.aload_n 0, 1) := by decide +kernel
theorem dX9_house_79 : decode cX9_house 79 = .ok (.getfield 61, 3) := by decide +kernel
theorem dX9_house_82 : decode cX9_house 82 = .ok (.getfield 115, 3) := by decide +kernel
theorem dX9_house_85 : decode cX9_house 85 = .ok (.iload_n 1, 1) := by decide +kernel
theorem dX9_house_86 : decode cX9_house 86 = .ok (.iaload, 1) := by decide +kernel
theorem dX9_house_87 : decode cX9_house 87 = .ok (.ireturn, 1) := by decide +kernel
theorem dX9_house_88 : decode cX9_house 88 = .ok (.aload_n 0, 1) := by decide +kernel
theorem dX9_house_89 : decode cX9_house 89 = .ok (.getfield 61, 3) := by decide +kernel
theorem dX9_house_92 : decode cX9_house 92 = .ok (.iload_n 1, 1) := by decide +kernel
theorem dX9_house_93 : decode cX9_house 93 = .ok (.invokevirtual 118, 3) := by decide +kernel
theorem dX9_house_96 : decode cX9_house 96 = .ok (.invokestatic 122, 3) := by decide +kernel
theorem dX9_house_99 : decode cX9_house 99 = .ok (.ireturn, 1) := by decide +kernel
theorem dX9_house_100 : decode cX9_house 100 = .ok (.iconst (-1), 1) := by decide +kernel
theorem dX9_house_101 : decode cX9_house 101 = .ok (.ireturn, 1) := by decide +kernel
set_option maxRecDepth 20000 in
theorem ggX9_sort_X8_hasSort : GoodIn wsX9_sort wsX8_hasSort := goodIn_r _ [6, 7, 33, 34, 35, 36, 37, 38, 39, 40, 41, 42] (by decide +kernel) (by decide +kernel)
set_option maxRecDepth 20000 in
theorem gX9_sort_X8_hasSort : GoodIn wsX9_sort (wsV RX9 127 RX8 yX8_hasSort wsX8_hasSort) := goodIn_app (goodIn_of _ (by decide +kernel)) ggX9_sort_X8_hasSort
set_option maxRecDepth 20000 in
theorem ggX9_sort_X9_isFlag : GoodIn wsX9_sort wsX9_isFlag := goodIn_r _ [11] (by decide +kernel) (by decide +kernel)
set_option maxRecDepth 20000 in
theorem gX9_sort_X9_isFlag : GoodIn wsX9_sort (va_wsS RX9 130 yX9_isFlag wsX9_isFlag) := goodIn_app (goodIn_of _ (by decide +kernel)) ggX9_sort_X9_isFlag
set_option maxRecDepth 20000 in
theorem ggX9_sort_X8_priceOf : GoodIn wsX9_sort wsX8_priceOf := goodIn_r _ [15, 16, 17, 3, 4, 5, 6, 7, 33, 34, 35, 36, 37, 38, 39, 40, 41, 42] (by decide +kernel) (by decide +kernel)
set_option maxRecDepth 20000 in
theorem gX9_sort_X8_priceOf : GoodIn wsX9_sort (wsV RX9 133 RX8 yX8_priceOf wsX8_priceOf) := goodIn_app (goodIn_of _ (by decide +kernel)) ggX9_sort_X8_priceOf
set_option maxRecDepth 20000 in
theorem ggX9_sort_X8_burnOf : GoodIn wsX9_sort wsX8_burnOf := goodIn_r _ [21, 22, 17, 3, 4, 5, 6, 7, 33, 34, 35, 36, 37, 38, 39, 40, 41, 42] (by decide +kernel) (by decide +kernel)
set_option maxRecDepth 20000 in
theorem gX9_sort_X8_burnOf : GoodIn wsX9_sort (wsV RX9 136 RX8 yX8_burnOf wsX8_burnOf) := goodIn_app (goodIn_of _ (by decide +kernel)) ggX9_sort_X8_burnOf
theorem dX9_sort_0 : decode cX9_sort 0 = .ok (.aload_n 0, 1) := by decide +kernel
theorem dX9_sort_1 : decode cX9_sort 1 = .ok (.getfield 61, 3) := by decide +kernel
theorem dX9_sort_4 : decode cX9_sort 4 = .ok (.iload_n 1, 1) := by decide +kernel
theorem dX9_sort_5 : decode cX9_sort 5 = .ok (.invokevirtual 127, 3) := by decide +kernel
theorem dX9_sort_8 : decode cX9_sort 8 = .ok (.ifCond .eq 10, 3) := by decide +kernel
theorem dX9_sort_11 : decode cX9_sort 11 = .ok (.iload_n 2, 1) := by decide +kernel
theorem dX9_sort_12 : decode cX9_sort 12 = .ok (.invokestatic 130, 3) := by decide +kernel
theorem dX9_sort_15 : decode cX9_sort 15 = .ok (.ifCond .ne 5, 3) := by decide +kernel
theorem dX9_sort_18 : decode cX9_sort 18 = .ok (.iconst (-1), 1) := by decide +kernel
theorem dX9_sort_19 : decode cX9_sort 19 = .ok (.ireturn, 1) := by decide +kernel
theorem dX9_sort_20 : decode cX9_sort 20 = .ok (.iload_n 2, 1) := by decide +kernel
theorem dX9_sort_21 : decode cX9_sort 21 = .ok (.ifCond .ne 14, 3) := by decide +kernel
theorem dX9_sort_24 : decode cX9_sort 24 = .ok (.aload_n 0, 1) := by decide +kernel
theorem dX9_sort_25 : decode cX9_sort 25 = .ok (.getfield 61, 3) := by decide +kernel
theorem dX9_sort_28 : decode cX9_sort 28 = .ok (.iload_n 1, 1) := by decide +kernel
theorem dX9_sort_29 : decode cX9_sort 29 = .ok (.invokevirtual 133, 3) := by decide +kernel
theorem dX9_sort_32 : decode cX9_sort 32 = .ok (.goto 11, 3) := by decide +kernel
theorem dX9_sort_35 : decode cX9_sort 35 = .ok (.aload_n 0, 1) := by decide +kernel
theorem dX9_sort_36 : decode cX9_sort 36 = .ok (.getfield 61, 3) := by decide +kernel
theorem dX9_sort_39 : decode cX9_sort 39 = .ok (.iload_n 1, 1) := by decide +kernel
theorem dX9_sort_40 : decode cX9_sort 40 = .ok (.invokevirtual 136, 3) := by decide +kernel
theorem dX9_sort_43 : decode cX9_sort 43 = .ok (.ireturn, 1) := by decide +kernel
set_option maxRecDepth 20000 in
theorem ggX9_roof_X8_hasHouse : GoodIn wsX9_roof wsX8_hasHouse := goodIn_r _ [6, 7, 29, 30, 31, 32, 33, 34, 35, 36, 37, 38] (by decide +kernel) (by decide +kernel)
set_option maxRecDepth 20000 in
theorem gX9_roof_X8_hasHouse : GoodIn wsX9_roof (wsV RX9 101 RX8 yX8_hasHouse wsX8_hasHouse) := goodIn_app (goodIn_of _ (by decide +kernel)) ggX9_roof_X8_hasHouse
set_option maxRecDepth 20000 in
theorem ggX9_roof_X8_hasSort : GoodIn wsX9_roof wsX8_hasSort := goodIn_r _ [11, 12, 29, 30, 31, 32, 33, 34, 35, 36, 37, 38] (by decide +kernel) (by decide +kernel)
set_option maxRecDepth 20000 in
theorem gX9_roof_X8_hasSort : GoodIn wsX9_roof (wsV RX9 127 RX8 yX8_hasSort wsX8_hasSort) := goodIn_app (goodIn_of _ (by decide +kernel)) ggX9_roof_X8_hasSort
set_option maxRecDepth 20000 in
theorem ggX9_roof_X8_isBoundElse : GoodIn wsX9_roof wsX8_isBoundElse := goodIn_r _ [16, 17, 18, 3, 4, 5, 6, 7, 29, 30, 31, 32, 33, 34, 35, 36, 37, 38] (by decide +kernel) (by decide +kernel)
set_option maxRecDepth 20000 in
theorem gX9_roof_X8_isBoundElse : GoodIn wsX9_roof (wsV RX9 139 RX8 yX8_isBoundElse wsX8_isBoundElse) := goodIn_app (goodIn_of _ (by decide +kernel)) ggX9_roof_X8_isBoundElse
theorem dX9_roof_0 : decode cX9_roof 0 = .ok (.aload_n 0, 1) := by decide +kernel
theorem dX9_roof_1 : decode cX9_roof 1 = .ok (.getfield 61, 3) := by decide +kernel
theorem dX9_roof_4 : decode cX9_roof 4 = .ok (.iload_n 1, 1) := by decide +kernel
theorem dX9_roof_5 : decode cX9_roof 5 = .ok (.invokevirtual 101, 3) := by decide +kernel
theorem dX9_roof_8 : decode cX9_roof 8 = .ok (.ifCond .eq 20, 3) := by decide +kernel
theorem dX9_roof_11 : decode cX9_roof 11 = .ok (.iload_n 2, 1) := by decide +kernel
theorem dX9_roof_12 : decode cX9_roof 12 = .ok (.bipush (-9), 2) := by decide +kernel
theorem dX9_roof_14 : decode cX9_roof 14 = .ok (.if_icmp .eq 16, 3) := by decide +kernel
theorem dX9_roof_17 : decode cX9_roof 17 = .ok (.aload_n 0, 1) := by decide +kernel
theorem dX9_roof_18 : decode cX9_roof 18 = .ok (.getfield 61, 3) := by decide +kernel
theorem dX9_roof_21 : decode cX9_roof 21 = .ok (.iload_n 2, 1) := by decide +kernel
theorem dX9_roof_22 : decode cX9_roof 22 = .ok (.invokevirtual 127, 3) := by decide +kernel
theorem dX9_roof_25 : decode cX9_roof 25 = .ok (.ifCond .ne 5, 3) := by decide +kernel
theorem dX9_roof_28 : decode cX9_roof 28 = .ok (.iconst (-1), 1) := by decide +kernel
theorem dX9_roof_29 : decode cX9_roof 29 = .ok (.ireturn, 1) := by decide +kernel
theorem dX9_roof_30 : decode cX9_roof 30 = .ok (.iload_n 2, 1) := by decide +kernel
theorem dX9_roof_31 : decode cX9_roof 31 = .ok (.bipush (-9), 2) := by decide +kernel
theorem dX9_roof_33 : decode cX9_roof 33 = .ok (.if_icmp .eq 18, 3) := by decide +kernel
theorem dX9_roof_36 : decode cX9_roof 36 = .ok (.aload_n 0, 1) := by decide +kernel
theorem dX9_roof_37 : decode cX9_roof 37 = .ok (.getfield 61, 3) := by decide +kernel
theorem dX9_roof_40 : decode cX9_roof 40 = .ok (.iload_n 1, 1) := by decide +kernel
theorem dX9_roof_41 : decode cX9_roof 41 = .ok (.iload_n 2, 1) := by decide +kernel
theorem dX9_roof_42 : decode cX9_roof 42 = .ok (.invokevirtual 139, 3) := by decide +kernel
theorem dX9_roof_45 : decode cX9_roof 45 = .ok (.ifCond .eq 6, 3) := by decide +kernel
theorem dX9_roof_48 : decode cX9_roof 48 = .ok (.bipush (-2), 2) := by decide +kernel
theorem dX9_roof_50 : decode cX9_roof 50 = .ok (.ireturn, 1) := by decide +kernel
theorem dX9_roof_51 : decode cX9_roof 51 = .ok (.aload_n 0, 1) := by decide +kernel
theorem dX9_roof_52 : decode cX9_roof 52 = .ok (.getfield 61, 3) := by decide +kernel
theorem dX9_roof_55 : decode cX9_roof 55 = .ok (.getfield 112, 3) := by decide +kernel
theorem dX9_roof_58 : decode cX9_roof 58 = .ok (.iload_n 1, 1) := by decide +kernel
theorem dX9_roof_59 : decode cX9_roof 59 = .ok (.iaload, 1) := by decide +kernel
theorem dX9_roof_60 : decode cX9_roof 60 = .ok (.istore_n 3, 1) := by decide +kernel
theorem dX9_roof_61 : decode cX9_roof 61 = .ok (.aload_n 0, 1) := by decide +kernel
theorem dX9_roof_62 : decode cX9_roof 62 = .ok (.getfield 61, 3) := by decide +kernel
theorem dX9_roof_65 : decode cX9_roof 65 = .ok (.getfield 112, 3) := by decide +kernel
theorem dX9_roof_68 : decode cX9_roof 68 = .ok (.iload_n 1, 1) := by decide +kernel
theorem dX9_roof_69 : decode cX9_roof 69 = .ok (.iload_n 2, 1) := by decide +kernel
theorem dX9_roof_70 : decode cX9_roof 70 = .ok (.iastore, 1) := by decide +kernel
theorem dX9_roof_71 : decode cX9_roof 71 = .ok (.iload_n 3, 1) := by decide +kernel
theorem dX9_roof_72 : decode cX9_roof 72 = .ok (.ireturn, 1) := by decide +kernel
theorem dX9_wind_0 : decode cX9_wind 0 = .ok (.iload_n 1, 1) := by decide +kernel
theorem dX9_wind_1 : decode cX9_wind 1 = .ok (.ifCond .lt 8, 3) := by decide +kernel
theorem dX9_wind_4 : decode cX9_wind 4 = .ok (.iload_n 1, 1) := by decide +kernel
theorem dX9_wind_5 : decode cX9_wind 5 = .ok (.iconst 4, 1) := by decide +kernel
theorem dX9_wind_6 : decode cX9_wind 6 = .ok (.if_icmp .le 5, 3) := by decide +kernel
theorem dX9_wind_9 : decode cX9_wind 9 = .ok (.iconst (-1), 1) := by decide +kernel
theorem dX9_wind_10 : decode cX9_wind 10 = .ok (.ireturn, 1) := by decide +kernel
theorem dX9_wind_11 : decode cX9_wind 11 = .ok (.aload_n 0, 1) := by decide +kernel
theorem dX9_wind_12 : decode cX9_wind 12 = .ok (.getfield 61, 3) := by decide +kernel
theorem dX9_wind_15 : decode cX9_wind 15 = .ok (.getfield 143, 3) := by decide +kernel
theorem dX9_wind_18 : decode cX9_wind 18 = .ok (.istore_n 2, 1) := by decide +kernel
theorem dX9_wind_19 : decode cX9_wind 19 = .ok (.aload_n 0, 1) := by decide +kernel
theorem dX9_wind_20 : decode cX9_wind 20 = .ok (.getfield 61, 3) := by decide +kernel
theorem dX9_wind_23 : decode cX9_wind 23 = .ok (.iload_n 1, 1) := by decide +kernel
theorem dX9_wind_24 : decode cX9_wind 24 = .ok (.putfield 143, 3) := by decide +kernel
theorem dX9_wind_27 : decode cX9_wind 27 = .ok (.iload_n 2, 1) := by decide +kernel
theorem dX9_wind_28 : decode cX9_wind 28 = .ok (.ireturn, 1) := by decide +kernel
set_option maxRecDepth 20000 in
theorem ggX9_breaches_X9_isFlag : GoodIn wsX9_breaches wsX9_isFlag := goodIn_r _ [5] (by decide +kernel) (by decide +kernel)
set_option maxRecDepth 20000 in
theorem gX9_breaches_X9_isFlag : GoodIn wsX9_breaches (va_wsS RX9 130 yX9_isFlag wsX9_isFlag) := goodIn_app (goodIn_of _ (by decide +kernel)) ggX9_breaches_X9_isFlag
set_option maxRecDepth 20000 in
theorem ggX9_breaches_X8_unlawfulPairs : GoodIn wsX9_breaches wsX8_unlawfulPairs := goodIn_r _ [10, 11, 12, 13, 14, 15, 9, 16, 17, 18, 19, 20, 21, 22, 23, 24, 25, 26, 27, 28, 29, 30, 31, 32, 33, 34, 35, 36, 37, 38, 39, 40, 41, 52, 53, 54, 55, 56, 57, 58, 59, 60, 61] (by decide +kernel) (by decide +kernel)
set_option maxRecDepth 20000 in
theorem gX9_breaches_X8_unlawfulPairs : GoodIn wsX9_breaches (wsV RX9 146 RX8 yX8_unlawfulPairs wsX8_unlawfulPairs) := goodIn_app (goodIn_of _ (by decide +kernel)) ggX9_breaches_X8_unlawfulPairs
theorem dX9_breaches_0 : decode cX9_breaches 0 = .ok (.iload_n 1, 1) := by decide +kernel
theorem dX9_breaches_1 : decode cX9_breaches 1 = .ok (.invokestatic 130, 3) := by decide +kernel
theorem dX9_breaches_4 : decode cX9_breaches 4 = .ok (.ifCond .eq 14, 3) := by decide +kernel
theorem dX9_breaches_7 : decode cX9_breaches 7 = .ok (.aload_n 0, 1) := by decide +kernel
theorem dX9_breaches_8 : decode cX9_breaches 8 = .ok (.getfield 61, 3) := by decide +kernel
theorem dX9_breaches_11 : decode cX9_breaches 11 = .ok (.iload_n 1, 1) := by decide +kernel
theorem dX9_breaches_12 : decode cX9_breaches 12 = .ok (.invokevirtual 146, 3) := by decide +kernel
theorem dX9_breaches_15 : decode cX9_breaches 15 = .ok (.goto 4, 3) := by decide +kernel
theorem dX9_breaches_18 : decode cX9_breaches 18 = .ok (.iconst (-1), 1) := by decide +kernel
theorem dX9_breaches_19 : decode cX9_breaches 19 = .ok (.ireturn, 1) := by decide +kernel
set_option maxRecDepth 20000 in
theorem ggX9_cheapest_X9_isFlag : GoodIn wsX9_cheapest wsX9_isFlag := goodIn_r _ [6] (by decide +kernel) (by decide +kernel)
set_option maxRecDepth 20000 in
theorem gX9_cheapest_X9_isFlag : GoodIn wsX9_cheapest (va_wsS RX9 130 yX9_isFlag wsX9_isFlag) := goodIn_app (goodIn_of _ (by decide +kernel)) ggX9_cheapest_X9_isFlag
set_option maxRecDepth 20000 in
theorem ggX9_cheapest_X8_hasHouse : GoodIn wsX9_cheapest wsX8_hasHouse := goodIn_r _ [11, 12, 93, 94, 95, 96, 97, 98, 99, 100, 101, 102] (by decide +kernel) (by decide +kernel)
set_option maxRecDepth 20000 in
theorem gX9_cheapest_X8_hasHouse : GoodIn wsX9_cheapest (wsV RX9 101 RX8 yX8_hasHouse wsX8_hasHouse) := goodIn_app (goodIn_of _ (by decide +kernel)) ggX9_cheapest_X8_hasHouse
set_option maxRecDepth 20000 in
theorem ggX9_cheapest_X4_prepare : GoodIn wsX9_cheapest wsX4_prepare := goodIn_r _ [17, 18, 19, 20, 21, 22, 23, 24, 25, 10, 26, 27, 28, 29, 30, 12, 31, 32, 33, 34, 35, 36, 37, 8, 9, 11, 93, 94, 95, 96, 97, 98, 99, 100, 101, 102, 103, 104, 105, 106, 107, 108, 109, 110, 111] (by decide +kernel) (by decide +kernel)
set_option maxRecDepth 20000 in
theorem gX9_cheapest_X4_prepare : GoodIn wsX9_cheapest (wsV RX9 149 RX4 yX4_prepare wsX4_prepare) := goodIn_app (goodIn_of _ (by decide +kernel)) ggX9_cheapest_X4_prepare
set_option maxRecDepth 20000 in
theorem ggX9_cheapest_X4_costPrices : GoodIn wsX9_cheapest wsX4_costPrices := goodIn_r _ [41, 18, 19, 22, 42, 43, 44, 10, 45, 46, 47, 48, 49, 50, 51, 103, 104, 105, 106, 107, 108, 109, 110, 111, 93, 94, 95, 96, 97, 98, 99, 100, 101, 102] (by decide +kernel) (by decide +kernel)
set_option maxRecDepth 20000 in
theorem gX9_cheapest_X4_costPrices : GoodIn wsX9_cheapest (wsV RX9 153 RX4 yX4_costPrices wsX4_costPrices) := goodIn_app (goodIn_of _ (by decide +kernel)) ggX9_cheapest_X4_costPrices
set_option maxRecDepth 20000 in
theorem ggX9_cheapest_X4_answer : GoodIn wsX9_cheapest wsX4_answer := goodIn_r _ [55, 18, 56, 57, 58, 59, 60, 16, 61, 62, 63, 64, 65, 66, 67, 19, 21, 22, 68, 69, 34, 70, 71, 72, 73, 74, 75, 76, 77, 78, 79, 80, 81, 82, 20, 103, 104, 105, 106, 107, 108, 109, 110, 111] (by decide +kernel) (by decide +kernel)
set_option maxRecDepth 20000 in
theorem gX9_cheapest_X4_answer : GoodIn wsX9_cheapest (wsV RX9 157 RX4 yX4_answer wsX4_answer) := goodIn_app (goodIn_of _ (by decide +kernel)) ggX9_cheapest_X4_answer
theorem dX9_cheapest_0 : decode cX9_cheapest 0 = .ok (.iload_n 1, 1) := by decide +kernel
theorem dX9_cheapest_1 : decode cX9_cheapest 1 = .ok (.invokestatic 130, 3) := by decide +kernel
theorem dX9_cheapest_4 : decode cX9_cheapest 4 = .ok (.ifCond .eq 19, 3) := by decide +kernel
theorem dX9_cheapest_7 : decode cX9_cheapest 7 = .ok (.iload_n 2, 1) := by decide +kernel
theorem dX9_cheapest_8 : decode cX9_cheapest 8 = .ok (.iconst (-1), 1) := by decide +kernel
theorem dX9_cheapest_9 : decode cX9_cheapest 9 = .ok (.if_icmp .eq 16, 3) := by decide +kernel
theorem dX9_cheapest_12 : decode cX9_cheapest 12 = .ok (.aload_n 0, 1) := by decide +kernel
theorem dX9_cheapest_13 : decode cX9_cheapest 13 = .ok (.getfield 61, 3) := by decide +kernel
theorem dX9_cheapest_16 : decode cX9_cheapest 16 = .ok (.iload_n 2, 1) := by decide +kernel
theorem dX9_cheapest_17 : decode cX9_cheapest 17 = .ok (.invokevirtual 101, 3) := by decide +kernel
theorem dX9_cheapest_20 : decode cX9_cheapest 20 = .ok (.ifCond .ne 5, 3) := by decide +kernel
theorem dX9_cheapest_23 : decode cX9_cheapest 23 = .ok (.iconst (-1), 1) := by decide +kernel
theorem dX9_cheapest_24 : decode cX9_cheapest 24 = .ok (.ireturn, 1) := by decide +kernel
theorem dX9_cheapest_25 : decode cX9_cheapest 25 = .ok (.aload_n 0, 1) := by decide +kernel
theorem dX9_cheapest_26 : decode cX9_cheapest 26 = .ok (.getfield 26, 3) := by decide +kernel
theorem dX9_cheapest_29 : decode cX9_cheapest 29 = .ok (.aload_n 0, 1) := by decide +kernel
theorem dX9_cheapest_30 : decode cX9_cheapest 30 = .ok (.getfield 61, 3) := by decide +kernel
theorem dX9_cheapest_33 : decode cX9_cheapest 33 = .ok (.iload_n 1, 1) := by decide +kernel
theorem dX9_cheapest_34 : decode cX9_cheapest 34 = .ok (.invokevirtual 149, 3) := by decide +kernel
theorem dX9_cheapest_37 : decode cX9_cheapest 37 = .ok (.aload_n 0, 1) := by decide +kernel
theorem dX9_cheapest_38 : decode cX9_cheapest 38 = .ok (.getfield 26, 3) := by decide +kernel
theorem dX9_cheapest_41 : decode cX9_cheapest 41 = .ok (.aload_n 0, 1) := by decide +kernel
theorem dX9_cheapest_42 : decode cX9_cheapest 42 = .ok (.getfield 61, 3) := by decide +kernel
theorem dX9_cheapest_45 : decode cX9_cheapest 45 = .ok (.invokevirtual 153, 3) := by decide +kernel
theorem dX9_cheapest_48 : decode cX9_cheapest 48 = .ok (.aload_n 0, 1) := by decide +kernel
theorem dX9_cheapest_49 : decode cX9_cheapest 49 = .ok (.getfield 26, 3) := by decide +kernel
theorem dX9_cheapest_52 : decode cX9_cheapest 52 = .ok (.iload_n 2, 1) := by decide +kernel
theorem dX9_cheapest_53 : decode cX9_cheapest 53 = .ok (.invokevirtual 157, 3) := by decide +kernel
theorem dX9_cheapest_56 : decode cX9_cheapest 56 = .ok (.ireturn, 1) := by decide +kernel
set_option maxRecDepth 20000 in
theorem ggX9_ways_X9_isFlag : GoodIn wsX9_ways wsX9_isFlag := goodIn_r _ [6] (by decide +kernel) (by decide +kernel)
set_option maxRecDepth 20000 in
theorem gX9_ways_X9_isFlag : GoodIn wsX9_ways (va_wsS RX9 130 yX9_isFlag wsX9_isFlag) := goodIn_app (goodIn_of _ (by decide +kernel)) ggX9_ways_X9_isFlag
set_option maxRecDepth 20000 in
theorem ggX9_ways_X4_prepare : GoodIn wsX9_ways wsX4_prepare := goodIn_r _ [11, 12, 13, 14, 15, 16, 17, 18, 19, 20, 21, 22, 23, 24, 25, 26, 27, 28, 29, 30, 31, 32, 33, 34, 35, 36, 66, 67, 68, 69, 70, 71, 72, 73, 74, 75, 76, 77, 78, 79, 80, 81, 82, 83, 84] (by decide +kernel) (by decide +kernel)
set_option maxRecDepth 20000 in
theorem gX9_ways_X4_prepare : GoodIn wsX9_ways (wsV RX9 149 RX4 yX4_prepare wsX4_prepare) := goodIn_app (goodIn_of _ (by decide +kernel)) ggX9_ways_X4_prepare
set_option maxRecDepth 20000 in
theorem ggX9_ways_X4_waysToRoof : GoodIn wsX9_ways wsX4_waysToRoof := goodIn_r _ [40, 41, 42, 10, 43, 12, 14, 13, 44, 45, 46, 47, 48, 15, 49, 50, 51, 52, 53, 54, 55, 76, 77, 78, 79, 80, 81, 82, 83, 84] (by decide +kernel) (by decide +kernel)
set_option maxRecDepth 20000 in
theorem gX9_ways_X4_waysToRoof : GoodIn wsX9_ways (wsV RX9 160 RX4 yX4_waysToRoof wsX4_waysToRoof) := goodIn_app (goodIn_of _ (by decide +kernel)) ggX9_ways_X4_waysToRoof
theorem dX9_ways_0 : decode cX9_ways 0 = .ok (.iload_n 1, 1) := by decide +kernel
theorem dX9_ways_1 : decode cX9_ways 1 = .ok (.invokestatic 130, 3) := by decide +kernel
theorem dX9_ways_4 : decode cX9_ways 4 = .ok (.ifCond .ne 5, 3) := by decide +kernel
theorem dX9_ways_7 : decode cX9_ways 7 = .ok (.iconst (-1), 1) := by decide +kernel
theorem dX9_ways_8 : decode cX9_ways 8 = .ok (.ireturn, 1) := by decide +kernel
theorem dX9_ways_9 : decode cX9_ways 9 = .ok (.aload_n 0, 1) := by decide +kernel
theorem dX9_ways_10 : decode cX9_ways 10 = .ok (.getfield 26, 3) := by decide +kernel
theorem dX9_ways_13 : decode cX9_ways 13 = .ok (.aload_n 0, 1) := by decide +kernel
theorem dX9_ways_14 : decode cX9_ways 14 = .ok (.getfield 61, 3) := by decide +kernel
theorem dX9_ways_17 : decode cX9_ways 17 = .ok (.iload_n 1, 1) := by decide +kernel
theorem dX9_ways_18 : decode cX9_ways 18 = .ok (.invokevirtual 149, 3) := by decide +kernel
theorem dX9_ways_21 : decode cX9_ways 21 = .ok (.aload_n 0, 1) := by decide +kernel
theorem dX9_ways_22 : decode cX9_ways 22 = .ok (.getfield 26, 3) := by decide +kernel
theorem dX9_ways_25 : decode cX9_ways 25 = .ok (.invokevirtual 160, 3) := by decide +kernel
theorem dX9_ways_28 : decode cX9_ways 28 = .ok (.ireturn, 1) := by decide +kernel
set_option maxRecDepth 20000 in
theorem ggX9_must_X9_isFlag : GoodIn wsX9_must wsX9_isFlag := goodIn_r _ [6] (by decide +kernel) (by decide +kernel)
set_option maxRecDepth 20000 in
theorem gX9_must_X9_isFlag : GoodIn wsX9_must (va_wsS RX9 130 yX9_isFlag wsX9_isFlag) := goodIn_app (goodIn_of _ (by decide +kernel)) ggX9_must_X9_isFlag
set_option maxRecDepth 20000 in
theorem ggX9_must_X8_hasHouse : GoodIn wsX9_must wsX8_hasHouse := goodIn_r _ [11, 12, 79, 80, 81, 82, 83, 84, 85, 86, 87, 88] (by decide +kernel) (by decide +kernel)
set_option maxRecDepth 20000 in
theorem gX9_must_X8_hasHouse : GoodIn wsX9_must (wsV RX9 101 RX8 yX8_hasHouse wsX8_hasHouse) := goodIn_app (goodIn_of _ (by decide +kernel)) ggX9_must_X8_hasHouse
set_option maxRecDepth 20000 in
theorem ggX9_must_X4_prepare : GoodIn wsX9_must wsX4_prepare := goodIn_r _ [17, 18, 19, 20, 21, 22, 23, 24, 25, 10, 26, 27, 28, 29, 30, 12, 31, 32, 33, 34, 35, 36, 37, 8, 9, 11, 79, 80, 81, 82, 83, 84, 85, 86, 87, 88, 89, 90, 91, 92, 93, 94, 95, 96, 97] (by decide +kernel) (by decide +kernel)
set_option maxRecDepth 20000 in
theorem gX9_must_X4_prepare : GoodIn wsX9_must (wsV RX9 149 RX4 yX4_prepare wsX4_prepare) := goodIn_app (goodIn_of _ (by decide +kernel)) ggX9_must_X4_prepare
set_option maxRecDepth 20000 in
theorem ggX9_must_X4_onlySort : GoodIn wsX9_must wsX4_onlySort := goodIn_r _ [41, 18, 21, 19, 42, 43, 44, 16, 45, 46, 47, 48, 49, 50, 51, 52, 22, 53, 54, 34, 55, 56, 57, 58, 59, 60, 61, 62, 63, 64, 65, 66, 67, 68, 20, 89, 90, 91, 92, 93, 94, 95, 96, 97] (by decide +kernel) (by decide +kernel)
set_option maxRecDepth 20000 in
theorem gX9_must_X4_onlySort : GoodIn wsX9_must (wsV RX9 163 RX4 yX4_onlySort wsX4_onlySort) := goodIn_app (goodIn_of _ (by decide +kernel)) ggX9_must_X4_onlySort
theorem dX9_must_0 : decode cX9_must 0 = .ok (.iload_n 1, 1) := by decide +kernel
theorem dX9_must_1 : decode cX9_must 1 = .ok (.invokestatic 130, 3) := by decide +kernel
theorem dX9_must_4 : decode cX9_must 4 = .ok (.ifCond .eq 14, 3) := by decide +kernel
theorem dX9_must_7 : decode cX9_must 7 = .ok (.aload_n 0, 1) := by decide +kernel
theorem dX9_must_8 : decode cX9_must 8 = .ok (.getfield 61, 3) := by decide +kernel
theorem dX9_must_11 : decode cX9_must 11 = .ok (.iload_n 2, 1) := by decide +kernel
theorem dX9_must_12 : decode cX9_must 12 = .ok (.invokevirtual 101, 3) := by decide +kernel
theorem dX9_must_15 : decode cX9_must 15 = .ok (.ifCond .ne 5, 3) := by decide +kernel
theorem dX9_must_18 : decode cX9_must 18 = .ok (.iconst (-1), 1) := by decide +kernel
theorem dX9_must_19 : decode cX9_must 19 = .ok (.ireturn, 1) := by decide +kernel
theorem dX9_must_20 : decode cX9_must 20 = .ok (.aload_n 0, 1) := by decide +kernel
theorem dX9_must_21 : decode cX9_must 21 = .ok (.getfield 26, 3) := by decide +kernel
theorem dX9_must_24 : decode cX9_must 24 = .ok (.aload_n 0, 1) := by decide +kernel
theorem dX9_must_25 : decode cX9_must 25 = .ok (.getfield 61, 3) := by decide +kernel
theorem dX9_must_28 : decode cX9_must 28 = .ok (.iload_n 1, 1) := by decide +kernel
theorem dX9_must_29 : decode cX9_must 29 = .ok (.invokevirtual 149, 3) := by decide +kernel
theorem dX9_must_32 : decode cX9_must 32 = .ok (.aload_n 0, 1) := by decide +kernel
theorem dX9_must_33 : decode cX9_must 33 = .ok (.getfield 26, 3) := by decide +kernel
theorem dX9_must_36 : decode cX9_must 36 = .ok (.iload_n 2, 1) := by decide +kernel
theorem dX9_must_37 : decode cX9_must 37 = .ok (.invokevirtual 163, 3) := by decide +kernel
theorem dX9_must_40 : decode cX9_must 40 = .ok (.ireturn, 1) := by decide +kernel
set_option maxRecDepth 20000 in
theorem ggX9_catches_X8_hasHouse : GoodIn wsX9_catches wsX8_hasHouse := goodIn_r _ [7, 8, 76, 77, 78, 79, 80, 81, 82, 83, 84, 85] (by decide +kernel) (by decide +kernel)
set_option maxRecDepth 20000 in
theorem gX9_catches_X8_hasHouse : GoodIn wsX9_catches (wsV RX9 101 RX8 yX8_hasHouse wsX8_hasHouse) := goodIn_app (goodIn_of _ (by decide +kernel)) ggX9_catches_X8_hasHouse
set_option maxRecDepth 20000 in
theorem ggX9_catches_X0_burnFrom : GoodIn wsX9_catches wsX0_burnFrom := goodIn_r _ [13, 14, 15, 16, 6, 17, 18, 19, 4, 5, 7, 8, 20, 21, 22, 23, 24, 25, 26, 27, 28, 29, 30, 31, 32, 33, 34, 35, 36, 12, 37, 38, 39, 40, 41, 42, 43, 44, 45, 46, 47, 48, 49, 50, 51, 52, 53, 54, 55, 56, 57, 58, 59, 60, 61, 62, 76, 77, 78, 79, 80, 81, 82, 83, 84, 85, 73, 74, 75] (by decide +kernel) (by decide +kernel)
set_option maxRecDepth 20000 in
theorem gX9_catches_X0_burnFrom : GoodIn wsX9_catches (wsV RX9 166 RX0 yX0_burnFrom wsX0_burnFrom) := goodIn_app (goodIn_of _ (by decide +kernel)) ggX9_catches_X0_burnFrom
theorem dX9_catches_0 : decode cX9_catches 0 = .ok (.aload_n 0, 1) := by decide +kernel
theorem dX9_catches_1 : decode cX9_catches 1 = .ok (.getfield 61, 3) := by decide +kernel
theorem dX9_catches_4 : decode cX9_catches 4 = .ok (.iload_n 1, 1) := by decide +kernel
theorem dX9_catches_5 : decode cX9_catches 5 = .ok (.invokevirtual 101, 3) := by decide +kernel
theorem dX9_catches_8 : decode cX9_catches 8 = .ok (.ifCond .eq 14, 3) := by decide +kernel
theorem dX9_catches_11 : decode cX9_catches 11 = .ok (.aload_n 0, 1) := by decide +kernel
theorem dX9_catches_12 : decode cX9_catches 12 = .ok (.getfield 61, 3) := by decide +kernel
theorem dX9_catches_15 : decode cX9_catches 15 = .ok (.iload_n 2, 1) := by decide +kernel
theorem dX9_catches_16 : decode cX9_catches 16 = .ok (.invokevirtual 101, 3) := by decide +kernel
theorem dX9_catches_19 : decode cX9_catches 19 = .ok (.ifCond .ne 5, 3) := by decide +kernel
theorem dX9_catches_22 : decode cX9_catches 22 = .ok (.iconst (-1), 1) := by decide +kernel
theorem dX9_catches_23 : decode cX9_catches 23 = .ok (.ireturn, 1) := by decide +kernel
theorem dX9_catches_24 : decode cX9_catches 24 = .ok (.aload_n 0, 1) := by decide +kernel
theorem dX9_catches_25 : decode cX9_catches 25 = .ok (.getfield 33, 3) := by decide +kernel
theorem dX9_catches_28 : decode cX9_catches 28 = .ok (.aload_n 0, 1) := by decide +kernel
theorem dX9_catches_29 : decode cX9_catches 29 = .ok (.getfield 61, 3) := by decide +kernel
theorem dX9_catches_32 : decode cX9_catches 32 = .ok (.iload_n 1, 1) := by decide +kernel
theorem dX9_catches_33 : decode cX9_catches 33 = .ok (.invokevirtual 166, 3) := by decide +kernel
theorem dX9_catches_36 : decode cX9_catches 36 = .ok (.ifCond .eq 15, 3) := by decide +kernel
theorem dX9_catches_39 : decode cX9_catches 39 = .ok (.aload_n 0, 1) := by decide +kernel
theorem dX9_catches_40 : decode cX9_catches 40 = .ok (.getfield 33, 3) := by decide +kernel
theorem dX9_catches_43 : decode cX9_catches 43 = .ok (.getfield 170, 3) := by decide +kernel
theorem dX9_catches_46 : decode cX9_catches 46 = .ok (.iload_n 2, 1) := by decide +kernel
theorem dX9_catches_47 : decode cX9_catches 47 = .ok (.iaload, 1) := by decide +kernel
theorem dX9_catches_48 : decode cX9_catches 48 = .ok (.goto 5, 3) := by decide +kernel
theorem dX9_catches_51 : decode cX9_catches 51 = .ok (.bipush (-2), 2) := by decide +kernel
theorem dX9_catches_53 : decode cX9_catches 53 = .ok (.ireturn, 1) := by decide +kernel
set_option maxRecDepth 20000 in
theorem ggX9_fire_X8_hasHouse : GoodIn wsX9_fire wsX8_hasHouse := goodIn_r _ [7, 8, 90, 91, 92, 93, 94, 95, 96, 97, 98, 99] (by decide +kernel) (by decide +kernel)
set_option maxRecDepth 20000 in
theorem gX9_fire_X8_hasHouse : GoodIn wsX9_fire (wsV RX9 101 RX8 yX8_hasHouse wsX8_hasHouse) := goodIn_app (goodIn_of _ (by decide +kernel)) ggX9_fire_X8_hasHouse
set_option maxRecDepth 20000 in
theorem ggX9_fire_X0_burnFrom : GoodIn wsX9_fire wsX0_burnFrom := goodIn_r _ [13, 14, 15, 16, 6, 17, 18, 19, 4, 5, 7, 8, 20, 21, 22, 23, 24, 25, 26, 27, 28, 29, 30, 31, 32, 33, 34, 35, 36, 12, 37, 38, 39, 40, 41, 42, 43, 44, 45, 46, 47, 48, 49, 50, 51, 52, 53, 54, 55, 56, 57, 58, 59, 60, 61, 62, 90, 91, 92, 93, 94, 95, 96, 97, 98, 99, 100, 101, 102] (by decide +kernel) (by decide +kernel)
set_option maxRecDepth 20000 in
theorem gX9_fire_X0_burnFrom : GoodIn wsX9_fire (wsV RX9 166 RX0 yX0_burnFrom wsX0_burnFrom) := goodIn_app (goodIn_of _ (by decide +kernel)) ggX9_fire_X0_burnFrom
set_option maxRecDepth 20000 in
theorem ggX9_fire_X0_howMany : GoodIn wsX9_fire wsX0_howMany := goodIn_r _ [66, 39, 67, 68, 69, 70, 71, 72, 73, 100, 101, 102] (by decide +kernel) (by decide +kernel)
set_option maxRecDepth 20000 in
theorem gX9_fire_X0_howMany : GoodIn wsX9_fire (wsV RX9 173 RX0 yX0_howMany wsX0_howMany) := goodIn_app (goodIn_of _ (by decide +kernel)) ggX9_fire_X0_howMany
set_option maxRecDepth 20000 in
theorem ggX9_fire_X8_priceOf : GoodIn wsX9_fire wsX8_priceOf := goodIn_r _ [77, 78, 25, 26, 27, 6, 28, 29, 90, 91, 92, 93, 94, 95, 96, 97, 98, 99] (by decide +kernel) (by decide +kernel)
set_option maxRecDepth 20000 in
theorem gX9_fire_X8_priceOf : GoodIn wsX9_fire (wsV RX9 133 RX8 yX8_priceOf wsX8_priceOf) := goodIn_app (goodIn_of _ (by decide +kernel)) ggX9_fire_X8_priceOf
set_option maxRecDepth 20000 in
theorem ggX9_fire_X8_burnOf : GoodIn wsX9_fire wsX8_burnOf := goodIn_r _ [23, 24, 25, 26, 27, 6, 28, 29, 90, 91, 92, 93, 94, 95, 96, 97, 98, 99] (by decide +kernel) (by decide +kernel)
set_option maxRecDepth 20000 in
theorem gX9_fire_X8_burnOf : GoodIn wsX9_fire (wsV RX9 136 RX8 yX8_burnOf wsX8_burnOf) := goodIn_app (goodIn_of _ (by decide +kernel)) ggX9_fire_X8_burnOf
theorem dX9_fire_0 : decode cX9_fire 0 = .ok (.aload_n 0, 1) := by decide +kernel
theorem dX9_fire_1 : decode cX9_fire 1 = .ok (.getfield 61, 3) := by decide +kernel
theorem dX9_fire_4 : decode cX9_fire 4 = .ok (.iload_n 1, 1) := by decide +kernel
theorem dX9_fire_5 : decode cX9_fire 5 = .ok (.invokevirtual 101, 3) := by decide +kernel
theorem dX9_fire_8 : decode cX9_fire 8 = .ok (.ifCond .eq 12, 3) := by decide +kernel
theorem dX9_fire_11 : decode cX9_fire 11 = .ok (.iload_n 2, 1) := by decide +kernel
theorem dX9_fire_12 : decode cX9_fire 12 = .ok (.ifCond .lt 8, 3) := by decide +kernel
theorem dX9_fire_15 : decode cX9_fire 15 = .ok (.iload_n 2, 1) := by decide +kernel
theorem dX9_fire_16 : decode cX9_fire 16 = .ok (.iconst 2, 1) := by decide +kernel
theorem dX9_fire_17 : decode cX9_fire 17 = .ok (.if_icmp .le 5, 3) := by decide +kernel
theorem dX9_fire_20 : decode cX9_fire 20 = .ok (.iconst (-1), 1) := by decide +kernel
theorem dX9_fire_21 : decode cX9_fire 21 = .ok (.ireturn, 1) := by decide +kernel
theorem dX9_fire_22 : decode cX9_fire 22 = .ok (.aload_n 0, 1) := by decide +kernel
theorem dX9_fire_23 : decode cX9_fire 23 = .ok (.getfield 33, 3) := by decide +kernel
theorem dX9_fire_26 : decode cX9_fire 26 = .ok (.aload_n 0, 1) := by decide +kernel
theorem dX9_fire_27 : decode cX9_fire 27 = .ok (.getfield 61, 3) := by decide +kernel
theorem dX9_fire_30 : decode cX9_fire 30 = .ok (.iload_n 1, 1) := by decide +kernel
theorem dX9_fire_31 : decode cX9_fire 31 = .ok (.invokevirtual 166, 3) := by decide +kernel
theorem dX9_fire_34 : decode cX9_fire 34 = .ok (.ifCond .ne 6, 3) := by decide +kernel
theorem dX9_fire_37 : decode cX9_fire 37 = .ok (.bipush (-2), 2) := by decide +kernel
theorem dX9_fire_39 : decode cX9_fire 39 = .ok (.ireturn, 1) := by decide +kernel
theorem dX9_fire_40 : decode cX9_fire 40 = .ok (.iload_n 2, 1) := by decide +kernel
theorem dX9_fire_41 : decode cX9_fire 41 = .ok (.lookupswitch 60 #[(0, 27), (1, 35)], 27) := by decide +kernel
theorem dX9_fire_68 : decode cX9_fire 68 = .ok (.aload_n 0, 1) := by decide +kernel
theorem dX9_fire_69 : decode cX9_fire 69 = .ok (.getfield 33, 3) := by decide +kernel
theorem dX9_fire_72 : decode cX9_fire 72 = .ok (.invokevirtual 173, 3) := by decide +kernel
theorem dX9_fire_75 : decode cX9_fire 75 = .ok (.ireturn, 1) := by decide +kernel
theorem dX9_fire_76 : decode cX9_fire 76 = .ok (.aload_n 0, 1) := by decide +kernel
theorem dX9_fire_77 : decode cX9_fire 77 = .ok (.getfield 33, 3) := by decide +kernel
theorem dX9_fire_80 : decode cX9_fire 80 = .ok (.invokevirtual 173, 3) := by decide +kernel
theorem dX9_fire_83 : decode cX9_fire 83 = .ok (.aload_n 0, 1) := by decide +kernel
theorem dX9_fire_84 : decode cX9_fire 84 = .ok (.getfield 61, 3) := by decide +kernel
theorem dX9_fire_87 : decode cX9_fire 87 = .ok (.aload_n 0, 1) := by decide +kernel
theorem dX9_fire_88 : decode cX9_fire 88 = .ok (.getfield 61, 3) := by decide +kernel
theorem dX9_fire_91 : decode cX9_fire 91 = .ok (.getfield 112, 3) := by decide +kernel
theorem dX9_fire_94 : decode cX9_fire 94 = .ok (.iload_n 1, 1) := by decide +kernel
theorem dX9_fire_95 : decode cX9_fire 95 = .ok (.iaload, 1) := by decide +kernel
theorem dX9_fire_96 : decode cX9_fire 96 = .ok (.invokevirtual 133, 3) := by decide +kernel
theorem dX9_fire_99 : decode cX9_fire 99 = .ok (.imul, 1) := by decide +kernel
theorem dX9_fire_100 : decode cX9_fire 100 = .ok (.ireturn, 1) := by decide +kernel
theorem dX9_fire_101 : decode cX9_fire 101 = .ok (.aload_n 0, 1) := by decide +kernel
theorem dX9_fire_102 : decode cX9_fire 102 = .ok (.getfield 33, 3) := by decide +kernel
theorem dX9_fire_105 : decode cX9_fire 105 = .ok (.getfield 176, 3) := by decide +kernel
theorem dX9_fire_108 : decode cX9_fire 108 = .ok (.aload_n 0, 1) := by decide +kernel
theorem dX9_fire_109 : decode cX9_fire 109 = .ok (.getfield 61, 3) := by decide +kernel
theorem dX9_fire_112 : decode cX9_fire 112 = .ok (.aload_n 0, 1) := by decide +kernel
theorem dX9_fire_113 : decode cX9_fire 113 = .ok (.getfield 61, 3) := by decide +kernel
theorem dX9_fire_116 : decode cX9_fire 116 = .ok (.getfield 112, 3) := by decide +kernel
theorem dX9_fire_119 : decode cX9_fire 119 = .ok (.iload_n 1, 1) := by decide +kernel
theorem dX9_fire_120 : decode cX9_fire 120 = .ok (.iaload, 1) := by decide +kernel
theorem dX9_fire_121 : decode cX9_fire 121 = .ok (.invokevirtual 136, 3) := by decide +kernel
theorem dX9_fire_124 : decode cX9_fire 124 = .ok (.iadd, 1) := by decide +kernel
theorem dX9_fire_125 : decode cX9_fire 125 = .ok (.ireturn, 1) := by decide +kernel
set_option maxRecDepth 20000 in
theorem ggX9_worst_X9_pricesLost : GoodIn wsX9_worst wsX9_pricesLost := goodIn_r _ [6, 1, 7, 8, 9, 10, 11, 12, 13, 14, 15, 16, 17, 18, 19, 20, 21, 22, 23, 24, 25, 26, 27, 28, 29, 30, 31, 32, 33, 34, 35, 36, 37, 38, 39, 40, 41, 42, 43, 44, 45, 46, 47, 48, 49, 50, 51, 52, 53, 54, 55, 56, 57, 58, 59, 60, 61, 62, 63, 64, 65, 66, 67, 68, 69, 70, 71, 72, 73, 74, 75, 76, 77, 78, 79, 80, 81, 82, 83, 84, 85, 86, 87, 88, 89, 90, 91, 92, 93, 94, 95, 96, 97, 98, 99, 100, 101] (by decide +kernel) (by decide +kernel)
set_option maxRecDepth 20000 in
theorem gX9_worst_X9_pricesLost : GoodIn wsX9_worst (wsV RX9 182 RX9 yX9_pricesLost wsX9_pricesLost) := goodIn_app (goodIn_of _ (by decide +kernel)) ggX9_worst_X9_pricesLost
theorem dX9_worst_0 : decode cX9_worst 0 = .ok (.bipush (-9), 2) := by decide +kernel
theorem dX9_worst_2 : decode cX9_worst 2 = .ok (.istore_n 1, 1) := by decide +kernel
theorem dX9_worst_3 : decode cX9_worst 3 = .ok (.iconst 0, 1) := by decide +kernel
theorem dX9_worst_4 : decode cX9_worst 4 = .ok (.istore_n 2, 1) := by decide +kernel
theorem dX9_worst_5 : decode cX9_worst 5 = .ok (.iconst 0, 1) := by decide +kernel
theorem dX9_worst_6 : decode cX9_worst 6 = .ok (.istore_n 3, 1) := by decide +kernel
theorem dX9_worst_7 : decode cX9_worst 7 = .ok (.iload_n 3, 1) := by decide +kernel
theorem dX9_worst_8 : decode cX9_worst 8 = .ok (.aload_n 0, 1) := by decide +kernel
theorem dX9_worst_9 : decode cX9_worst 9 = .ok (.getfield 61, 3) := by decide +kernel
theorem dX9_worst_12 : decode cX9_worst 12 = .ok (.getfield 179, 3) := by decide +kernel
theorem dX9_worst_15 : decode cX9_worst 15 = .ok (.if_icmp .ge 34, 3) := by decide +kernel
theorem dX9_worst_18 : decode cX9_worst 18 = .ok (.aload_n 0, 1) := by decide +kernel
theorem dX9_worst_19 : decode cX9_worst 19 = .ok (.iload_n 3, 1) := by decide +kernel
theorem dX9_worst_20 : decode cX9_worst 20 = .ok (.aload_n 0, 1) := by decide +kernel
theorem dX9_worst_21 : decode cX9_worst 21 = .ok (.getfield 61, 3) := by decide +kernel
theorem dX9_worst_24 : decode cX9_worst 24 = .ok (.getfield 143, 3) := by decide +kernel
theorem dX9_worst_27 : decode cX9_worst 27 = .ok (.invokevirtual 182, 3) := by decide +kernel
theorem dX9_worst_30 : decode cX9_worst 30 = .ok (.istore 4, 2) := by decide +kernel
theorem dX9_worst_32 : decode cX9_worst 32 = .ok (.iload 4, 2) := by decide +kernel
theorem dX9_worst_34 : decode cX9_worst 34 = .ok (.iload_n 2, 1) := by decide +kernel
theorem dX9_worst_35 : decode cX9_worst 35 = .ok (.if_icmp .le 8, 3) := by decide +kernel
theorem dX9_worst_38 : decode cX9_worst 38 = .ok (.iload 4, 2) := by decide +kernel
theorem dX9_worst_40 : decode cX9_worst 40 = .ok (.istore_n 2, 1) := by decide +kernel
theorem dX9_worst_41 : decode cX9_worst 41 = .ok (.iload_n 3, 1) := by decide +kernel
theorem dX9_worst_42 : decode cX9_worst 42 = .ok (.istore_n 1, 1) := by decide +kernel
theorem dX9_worst_43 : decode cX9_worst 43 = .ok (.iinc 3 1, 3) := by decide +kernel
theorem dX9_worst_46 : decode cX9_worst 46 = .ok (.goto (-39), 3) := by decide +kernel
theorem dX9_worst_49 : decode cX9_worst 49 = .ok (.iload_n 1, 1) := by decide +kernel
theorem dX9_worst_50 : decode cX9_worst 50 = .ok (.ireturn, 1) := by decide +kernel
set_option maxRecDepth 20000 in
theorem ggX9_mean_X8_canBurn : GoodIn wsX9_mean wsX8_canBurn := goodIn_r _ [7, 8, 9, 10, 11, 6, 12, 13, 14, 15, 16, 17, 18, 19, 20, 21, 22, 23, 96, 97, 98, 99, 100, 101, 102, 103, 104, 105] (by decide +kernel) (by decide +kernel)
set_option maxRecDepth 20000 in
theorem gX9_mean_X8_canBurn : GoodIn wsX9_mean (wsV RX9 186 RX8 yX8_canBurn wsX8_canBurn) := goodIn_app (goodIn_of _ (by decide +kernel)) ggX9_mean_X8_canBurn
set_option maxRecDepth 20000 in
theorem ggX9_mean_X9_pricesLost : GoodIn wsX9_mean wsX9_pricesLost := goodIn_r _ [28, 1, 29, 3, 4, 5, 6, 7, 8, 9, 10, 11, 12, 13, 14, 15, 16, 17, 18, 19, 20, 21, 22, 23, 30, 31, 32, 33, 34, 35, 36, 37, 38, 39, 40, 41, 42, 43, 44, 45, 46, 47, 48, 49, 50, 51, 52, 53, 54, 55, 56, 57, 58, 59, 60, 61, 62, 63, 64, 65, 66, 67, 68, 69, 70, 71, 72, 73, 74, 75, 76, 77, 78, 79, 86, 87, 88, 89, 90, 91, 92, 93, 94, 95, 96, 97, 98, 99, 100, 101, 102, 103, 104, 105, 106, 107, 108] (by decide +kernel) (by decide +kernel)
set_option maxRecDepth 20000 in
theorem gX9_mean_X9_pricesLost : GoodIn wsX9_mean (wsV RX9 182 RX9 yX9_pricesLost wsX9_pricesLost) := goodIn_app (goodIn_of _ (by decide +kernel)) ggX9_mean_X9_pricesLost
set_option maxRecDepth 20000 in
theorem ggX9_mean_X9_greatestCommon : GoodIn wsX9_mean wsX9_greatestCommon := goodIn_r _ [82] (by decide +kernel) (by decide +kernel)
set_option maxRecDepth 20000 in
theorem gX9_mean_X9_greatestCommon : GoodIn wsX9_mean (va_wsS RX9 189 yX9_greatestCommon wsX9_greatestCommon) := goodIn_app (goodIn_of _ (by decide +kernel)) ggX9_mean_X9_greatestCommon
set_option maxRecDepth 20000 in
theorem ggX9_mean_X9_isFlag : GoodIn wsX9_mean wsX9_isFlag := goodIn_r _ [85] (by decide +kernel) (by decide +kernel)
set_option maxRecDepth 20000 in
theorem gX9_mean_X9_isFlag : GoodIn wsX9_mean (va_wsS RX9 130 yX9_isFlag wsX9_isFlag) := goodIn_app (goodIn_of _ (by decide +kernel)) ggX9_mean_X9_isFlag
theorem dX9_mean_0 : decode cX9_mean 0 = .ok (.iconst 0, 1) := by decide +kernel
theorem dX9_mean_1 : decode cX9_mean 1 = .ok (.istore_n 2, 1) := by decide +kernel
theorem dX9_mean_2 : decode cX9_mean 2 = .ok (.iconst 0, 1) := by decide +kernel
theorem dX9_mean_3 : decode cX9_mean 3 = .ok (.istore_n 3, 1) := by decide +kernel
theorem dX9_mean_4 : decode cX9_mean 4 = .ok (.iconst 0, 1) := by decide +kernel
theorem dX9_mean_5 : decode cX9_mean 5 = .ok (.istore 4, 2) := by decide +kernel
theorem dX9_mean_7 : decode cX9_mean 7 = .ok (.iload 4, 2) := by decide +kernel
theorem dX9_mean_9 : decode cX9_mean 9 = .ok (.aload_n 0, 1) := by decide +kernel
theorem dX9_mean_10 : decode cX9_mean 10 = .ok (.getfield 61, 3) := by decide +kernel
theorem dX9_mean_13 : decode cX9_mean 13 = .ok (.getfield 179, 3) := by decide +kernel
theorem dX9_mean_16 : decode cX9_mean 16 = .ok (.if_icmp .ge 40, 3) := by decide +kernel
theorem dX9_mean_19 : decode cX9_mean 19 = .ok (.aload_n 0, 1) := by decide +kernel
theorem dX9_mean_20 : decode cX9_mean 20 = .ok (.getfield 61, 3) := by decide +kernel
theorem dX9_mean_23 : decode cX9_mean 23 = .ok (.iload 4, 2) := by decide +kernel
theorem dX9_mean_25 : decode cX9_mean 25 = .ok (.invokevirtual 186, 3) := by decide +kernel
theorem dX9_mean_28 : decode cX9_mean 28 = .ok (.ifCond .eq 22, 3) := by decide +kernel
theorem dX9_mean_31 : decode cX9_mean 31 = .ok (.iinc 2 1, 3) := by decide +kernel
theorem dX9_mean_34 : decode cX9_mean 34 = .ok (.iload_n 3, 1) := by decide +kernel
theorem dX9_mean_35 : decode cX9_mean 35 = .ok (.aload_n 0, 1) := by decide +kernel
theorem dX9_mean_36 : decode cX9_mean 36 = .ok (.iload 4, 2) := by decide +kernel
theorem dX9_mean_38 : decode cX9_mean 38 = .ok (.aload_n 0, 1) := by decide +kernel
theorem dX9_mean_39 : decode cX9_mean 39 = .ok (.getfield 61, 3) := by decide +kernel
theorem dX9_mean_42 : decode cX9_mean 42 = .ok (.getfield 143, 3) := by decide +kernel
theorem dX9_mean_45 : decode cX9_mean 45 = .ok (.invokevirtual 182, 3) := by decide +kernel
theorem dX9_mean_48 : decode cX9_mean 48 = .ok (.iadd, 1) := by decide +kernel
theorem dX9_mean_49 : decode cX9_mean 49 = .ok (.istore_n 3, 1) := by decide +kernel
theorem dX9_mean_50 : decode cX9_mean 50 = .ok (.iinc 4 1, 3) := by decide +kernel
theorem dX9_mean_53 : decode cX9_mean 53 = .ok (.goto (-46), 3) := by decide +kernel
theorem dX9_mean_56 : decode cX9_mean 56 = .ok (.iload_n 3, 1) := by decide +kernel
theorem dX9_mean_57 : decode cX9_mean 57 = .ok (.iload_n 2, 1) := by decide +kernel
theorem dX9_mean_58 : decode cX9_mean 58 = .ok (.invokestatic 189, 3) := by decide +kernel
theorem dX9_mean_61 : decode cX9_mean 61 = .ok (.istore 4, 2) := by decide +kernel
theorem dX9_mean_63 : decode cX9_mean 63 = .ok (.iload_n 1, 1) := by decide +kernel
theorem dX9_mean_64 : decode cX9_mean 64 = .ok (.invokestatic 130, 3) := by decide +kernel
theorem dX9_mean_67 : decode cX9_mean 67 = .ok (.ifCond .eq 12, 3) := by decide +kernel
theorem dX9_mean_70 : decode cX9_mean 70 = .ok (.iload_n 2, 1) := by decide +kernel
theorem dX9_mean_71 : decode cX9_mean 71 = .ok (.ifCond .eq 8, 3) := by decide +kernel
theorem dX9_mean_74 : decode cX9_mean 74 = .ok (.iload 4, 2) := by decide +kernel
theorem dX9_mean_76 : decode cX9_mean 76 = .ok (.ifCond .ne 6, 3) := by decide +kernel
theorem dX9_mean_79 : decode cX9_mean 79 = .ok (.ldc 192, 2) := by decide +kernel
theorem dX9_mean_81 : decode cX9_mean 81 = .ok (.ireturn, 1) := by decide +kernel
theorem dX9_mean_82 : decode cX9_mean 82 = .ok (.iload_n 1, 1) := by decide +kernel
theorem dX9_mean_83 : decode cX9_mean 83 = .ok (.ifCond .ne 7, 3) := by decide +kernel
theorem dX9_mean_86 : decode cX9_mean 86 = .ok (.iload_n 3, 1) := by decide +kernel
theorem dX9_mean_87 : decode cX9_mean 87 = .ok (.goto 4, 3) := by decide +kernel
theorem dX9_mean_90 : decode cX9_mean 90 = .ok (.iload_n 2, 1) := by decide +kernel
theorem dX9_mean_91 : decode cX9_mean 91 = .ok (.iload 4, 2) := by decide +kernel
theorem dX9_mean_93 : decode cX9_mean 93 = .ok (.idiv, 1) := by decide +kernel
theorem dX9_mean_94 : decode cX9_mean 94 = .ok (.ireturn, 1) := by decide +kernel
set_option maxRecDepth 20000 in
theorem ggX9_saw_X8_hasHouse : GoodIn wsX9_saw wsX8_hasHouse := goodIn_r _ [7, 8, 30, 31, 32, 33, 34, 35, 36, 37, 38, 39] (by decide +kernel) (by decide +kernel)
set_option maxRecDepth 20000 in
theorem gX9_saw_X8_hasHouse : GoodIn wsX9_saw (wsV RX9 101 RX8 yX8_hasHouse wsX8_hasHouse) := goodIn_app (goodIn_of _ (by decide +kernel)) ggX9_saw_X8_hasHouse
set_option maxRecDepth 20000 in
theorem ggX9_saw_X5_add : GoodIn wsX9_saw wsX5_add := goodIn_r _ [13, 14, 15, 16, 27, 28, 29] (by decide +kernel) (by decide +kernel)
set_option maxRecDepth 20000 in
theorem gX9_saw_X5_add : GoodIn wsX9_saw (wsV RX9 193 RX5 yX5_add wsX5_add) := goodIn_app (goodIn_of _ (by decide +kernel)) ggX9_saw_X5_add
theorem dX9_saw_0 : decode cX9_saw 0 = .ok (.iload_n 2, 1) := by decide +kernel
theorem dX9_saw_1 : decode cX9_saw 1 = .ok (.bipush (-9), 2) := by decide +kernel
theorem dX9_saw_3 : decode cX9_saw 3 = .ok (.if_icmp .eq 13, 3) := by decide +kernel
theorem dX9_saw_6 : decode cX9_saw 6 = .ok (.iload_n 2, 1) := by decide +kernel
theorem dX9_saw_7 : decode cX9_saw 7 = .ok (.ifCond .lt 13, 3) := by decide +kernel
theorem dX9_saw_10 : decode cX9_saw 10 = .ok (.iload_n 2, 1) := by decide +kernel
theorem dX9_saw_11 : decode cX9_saw 11 = .ok (.bipush 99, 2) := by decide +kernel
theorem dX9_saw_13 : decode cX9_saw 13 = .ok (.if_icmp .gt 7, 3) := by decide +kernel
theorem dX9_saw_16 : decode cX9_saw 16 = .ok (.iconst 1, 1) := by decide +kernel
theorem dX9_saw_17 : decode cX9_saw 17 = .ok (.goto 4, 3) := by decide +kernel
theorem dX9_saw_20 : decode cX9_saw 20 = .ok (.iconst 0, 1) := by decide +kernel
theorem dX9_saw_21 : decode cX9_saw 21 = .ok (.istore_n 3, 1) := by decide +kernel
theorem dX9_saw_22 : decode cX9_saw 22 = .ok (.aload_n 0, 1) := by decide +kernel
theorem dX9_saw_23 : decode cX9_saw 23 = .ok (.getfield 61, 3) := by decide +kernel
theorem dX9_saw_26 : decode cX9_saw 26 = .ok (.iload_n 1, 1) := by decide +kernel
theorem dX9_saw_27 : decode cX9_saw 27 = .ok (.invokevirtual 101, 3) := by decide +kernel
theorem dX9_saw_30 : decode cX9_saw 30 = .ok (.ifCond .eq 7, 3) := by decide +kernel
theorem dX9_saw_33 : decode cX9_saw 33 = .ok (.iload_n 3, 1) := by decide +kernel
theorem dX9_saw_34 : decode cX9_saw 34 = .ok (.ifCond .ne 5, 3) := by decide +kernel
theorem dX9_saw_37 : decode cX9_saw 37 = .ok (.iconst (-1), 1) := by decide +kernel
theorem dX9_saw_38 : decode cX9_saw 38 = .ok (.ireturn, 1) := by decide +kernel
theorem dX9_saw_39 : decode cX9_saw 39 = .ok (.aload_n 0, 1) := by decide +kernel
theorem dX9_saw_40 : decode cX9_saw 40 = .ok (.getfield 40, 3) := by decide +kernel
theorem dX9_saw_43 : decode cX9_saw 43 = .ok (.iload_n 1, 1) := by decide +kernel
theorem dX9_saw_44 : decode cX9_saw 44 = .ok (.iload_n 2, 1) := by decide +kernel
theorem dX9_saw_45 : decode cX9_saw 45 = .ok (.invokevirtual 193, 3) := by decide +kernel
theorem dX9_saw_48 : decode cX9_saw 48 = .ok (.ifCond .eq 13, 3) := by decide +kernel
theorem dX9_saw_51 : decode cX9_saw 51 = .ok (.aload_n 0, 1) := by decide +kernel
theorem dX9_saw_52 : decode cX9_saw 52 = .ok (.getfield 40, 3) := by decide +kernel
theorem dX9_saw_55 : decode cX9_saw 55 = .ok (.getfield 196, 3) := by decide +kernel
theorem dX9_saw_58 : decode cX9_saw 58 = .ok (.goto 5, 3) := by decide +kernel
theorem dX9_saw_61 : decode cX9_saw 61 = .ok (.bipush (-3), 2) := by decide +kernel
theorem dX9_saw_63 : decode cX9_saw 63 = .ok (.ireturn, 1) := by decide +kernel
set_option maxRecDepth 20000 in
theorem ggX9_forget_X5_empty : GoodIn wsX9_forget wsX5_empty := goodIn_r _ [6, 7, 18, 19, 20] (by decide +kernel) (by decide +kernel)
set_option maxRecDepth 20000 in
theorem gX9_forget_X5_empty : GoodIn wsX9_forget (wsV RX9 96 RX5 yX5_empty wsX5_empty) := goodIn_app (goodIn_of _ (by decide +kernel)) ggX9_forget_X5_empty
theorem dX9_forget_0 : decode cX9_forget 0 = .ok (.aload_n 0, 1) := by decide +kernel
theorem dX9_forget_1 : decode cX9_forget 1 = .ok (.getfield 40, 3) := by decide +kernel
theorem dX9_forget_4 : decode cX9_forget 4 = .ok (.invokevirtual 96, 3) := by decide +kernel
theorem dX9_forget_7 : decode cX9_forget 7 = .ok (.ireturn, 1) := by decide +kernel
set_option maxRecDepth 20000 in
theorem ggX9_began_X0_burnFrom : GoodIn wsX9_began wsX0_burnFrom := goodIn_r _ [8, 9, 10, 11, 12, 13, 14, 15, 16, 17, 18, 19, 20, 21, 22, 23, 24, 25, 26, 27, 28, 29, 30, 31, 32, 33, 34, 35, 36, 7, 37, 38, 39, 40, 41, 42, 43, 44, 45, 46, 47, 48, 49, 50, 51, 52, 53, 54, 55, 56, 57, 58, 59, 60, 61, 62, 81, 82, 83, 84, 85, 86, 87, 88, 89, 90, 91, 92, 93] (by decide +kernel) (by decide +kernel)
set_option maxRecDepth 20000 in
theorem gX9_began_X0_burnFrom : GoodIn wsX9_began (wsV RX9 166 RX0 yX0_burnFrom wsX0_burnFrom) := goodIn_app (goodIn_of _ (by decide +kernel)) ggX9_began_X0_burnFrom
set_option maxRecDepth 20000 in
theorem ggX9_began_X5_fits : GoodIn wsX9_began wsX5_fits := goodIn_r _ [67, 68, 69, 70, 94, 95, 96, 91, 92, 93] (by decide +kernel) (by decide +kernel)
set_option maxRecDepth 20000 in
theorem gX9_began_X5_fits : GoodIn wsX9_began (wsV RX9 199 RX5 yX5_fits wsX5_fits) := goodIn_app (goodIn_of _ (by decide +kernel)) ggX9_began_X5_fits
theorem dX9_began_0 : decode cX9_began 0 = .ok (.iconst 0, 1) := by decide +kernel
theorem dX9_began_1 : decode cX9_began 1 = .ok (.istore_n 1, 1) := by decide +kernel
theorem dX9_began_2 : decode cX9_began 2 = .ok (.iconst 0, 1) := by decide +kernel
theorem dX9_began_3 : decode cX9_began 3 = .ok (.istore_n 2, 1) := by decide +kernel
theorem dX9_began_4 : decode cX9_began 4 = .ok (.iload_n 2, 1) := by decide +kernel
theorem dX9_began_5 : decode cX9_began 5 = .ok (.aload_n 0, 1) := by decide +kernel
theorem dX9_began_6 : decode cX9_began 6 = .ok (.getfield 61, 3) := by decide +kernel
theorem dX9_began_9 : decode cX9_began 9 = .ok (.getfield 179, 3) := by decide +kernel
theorem dX9_began_12 : decode cX9_began 12 = .ok (.if_icmp .ge 44, 3) := by decide +kernel
theorem dX9_began_15 : decode cX9_began 15 = .ok (.aload_n 0, 1) := by decide +kernel
theorem dX9_began_16 : decode cX9_began 16 = .ok (.getfield 33, 3) := by decide +kernel
theorem dX9_began_19 : decode cX9_began 19 = .ok (.aload_n 0, 1) := by decide +kernel
theorem dX9_began_20 : decode cX9_began 20 = .ok (.getfield 61, 3) := by decide +kernel
theorem dX9_began_23 : decode cX9_began 23 = .ok (.iload_n 2, 1) := by decide +kernel
theorem dX9_began_24 : decode cX9_began 24 = .ok (.invokevirtual 166, 3) := by decide +kernel
theorem dX9_began_27 : decode cX9_began 27 = .ok (.ifCond .eq 23, 3) := by decide +kernel
theorem dX9_began_30 : decode cX9_began 30 = .ok (.aload_n 0, 1) := by decide +kernel
theorem dX9_began_31 : decode cX9_began 31 = .ok (.getfield 40, 3) := by decide +kernel
theorem dX9_began_34 : decode cX9_began 34 = .ok (.aload_n 0, 1) := by decide +kernel
theorem dX9_began_35 : decode cX9_began 35 = .ok (.getfield 33, 3) := by decide +kernel
theorem dX9_began_38 : decode cX9_began 38 = .ok (.invokevirtual 199, 3) := by decide +kernel
theorem dX9_began_41 : decode cX9_began 41 = .ok (.ifCond .eq 9, 3) := by decide +kernel
theorem dX9_began_44 : decode cX9_began 44 = .ok (.iload_n 1, 1) := by decide +kernel
theorem dX9_began_45 : decode cX9_began 45 = .ok (.iconst 1, 1) := by decide +kernel
theorem dX9_began_46 : decode cX9_began 46 = .ok (.iload_n 2, 1) := by decide +kernel
theorem dX9_began_47 : decode cX9_began 47 = .ok (.ishl, 1) := by decide +kernel
theorem dX9_began_48 : decode cX9_began 48 = .ok (.ior, 1) := by decide +kernel
theorem dX9_began_49 : decode cX9_began 49 = .ok (.istore_n 1, 1) := by decide +kernel
theorem dX9_began_50 : decode cX9_began 50 = .ok (.iinc 2 1, 3) := by decide +kernel
theorem dX9_began_53 : decode cX9_began 53 = .ok (.goto (-49), 3) := by decide +kernel
theorem dX9_began_56 : decode cX9_began 56 = .ok (.iload_n 1, 1) := by decide +kernel
theorem dX9_began_57 : decode cX9_began 57 = .ok (.ireturn, 1) := by decide +kernel
set_option maxRecDepth 20000 in
theorem ggX9_change_X8_hasHouse : GoodIn wsX9_change wsX8_hasHouse := goodIn_r _ [7, 8, 113, 114, 115, 116, 117, 118, 119, 120, 121, 122] (by decide +kernel) (by decide +kernel)
set_option maxRecDepth 20000 in
theorem gX9_change_X8_hasHouse : GoodIn wsX9_change (wsV RX9 101 RX8 yX8_hasHouse wsX8_hasHouse) := goodIn_app (goodIn_of _ (by decide +kernel)) ggX9_change_X8_hasHouse
set_option maxRecDepth 20000 in
theorem ggX9_change_X8_hasSort : GoodIn wsX9_change wsX8_hasSort := goodIn_r _ [12, 13, 113, 114, 115, 116, 117, 118, 119, 120, 121, 122] (by decide +kernel) (by decide +kernel)
set_option maxRecDepth 20000 in
theorem gX9_change_X8_hasSort : GoodIn wsX9_change (wsV RX9 127 RX8 yX8_hasSort wsX8_hasSort) := goodIn_app (goodIn_of _ (by decide +kernel)) ggX9_change_X8_hasSort
set_option maxRecDepth 20000 in
theorem ggX9_change_X9_isFlag : GoodIn wsX9_change wsX9_isFlag := goodIn_r _ [17] (by decide +kernel) (by decide +kernel)
set_option maxRecDepth 20000 in
theorem gX9_change_X9_isFlag : GoodIn wsX9_change (va_wsS RX9 130 yX9_isFlag wsX9_isFlag) := goodIn_app (goodIn_of _ (by decide +kernel)) ggX9_change_X9_isFlag
set_option maxRecDepth 20000 in
theorem ggX9_change_X8_isBoundElse : GoodIn wsX9_change wsX8_isBoundElse := goodIn_r _ [21, 22, 23, 4, 5, 6, 7, 8, 113, 114, 115, 116, 117, 118, 119, 120, 121, 122] (by decide +kernel) (by decide +kernel)
set_option maxRecDepth 20000 in
theorem gX9_change_X8_isBoundElse : GoodIn wsX9_change (wsV RX9 139 RX8 yX8_isBoundElse wsX8_isBoundElse) := goodIn_app (goodIn_of _ (by decide +kernel)) ggX9_change_X8_isBoundElse
set_option maxRecDepth 20000 in
theorem ggX9_change_X8_howManyRoofs : GoodIn wsX9_change wsX8_howManyRoofs := goodIn_r _ [27, 8, 28, 29, 30, 6, 31, 32, 33, 34, 35, 36, 37, 38, 39, 113, 114, 115, 116, 117, 118, 119, 120, 121, 122] (by decide +kernel) (by decide +kernel)
set_option maxRecDepth 20000 in
theorem gX9_change_X8_howManyRoofs : GoodIn wsX9_change (wsV RX9 203 RX8 yX8_howManyRoofs wsX8_howManyRoofs) := goodIn_app (goodIn_of _ (by decide +kernel)) ggX9_change_X8_howManyRoofs
set_option maxRecDepth 20000 in
theorem ggX9_change_X4_prepare : GoodIn wsX9_change wsX4_prepare := goodIn_r _ [44, 45, 46, 47, 48, 49, 50, 51, 52, 6, 53, 54, 55, 56, 57, 8, 58, 59, 60, 61, 62, 63, 23, 4, 5, 7, 113, 114, 115, 116, 117, 118, 119, 120, 121, 122, 123, 124, 125, 126, 127, 128, 129, 130, 131] (by decide +kernel) (by decide +kernel)
set_option maxRecDepth 20000 in
theorem gX9_change_X4_prepare : GoodIn wsX9_change (wsV RX9 149 RX4 yX4_prepare wsX4_prepare) := goodIn_app (goodIn_of _ (by decide +kernel)) ggX9_change_X4_prepare
set_option maxRecDepth 20000 in
theorem ggX9_change_X4_costChangesBut : GoodIn wsX9_change wsX4_costChangesBut := goodIn_r _ [67, 45, 48, 68, 69, 70, 43, 71, 46, 49, 123, 124, 125, 126, 127, 128, 129, 130, 131, 113, 114, 115, 116, 117, 118, 119, 120, 121, 122] (by decide +kernel) (by decide +kernel)
set_option maxRecDepth 20000 in
theorem gX9_change_X4_costChangesBut : GoodIn wsX9_change (wsV RX9 206 RX4 yX4_costChangesBut wsX4_costChangesBut) := goodIn_app (goodIn_of _ (by decide +kernel)) ggX9_change_X4_costChangesBut
set_option maxRecDepth 20000 in
theorem ggX9_change_X4_answer : GoodIn wsX9_change wsX4_answer := goodIn_r _ [75, 45, 76, 77, 78, 79, 80, 43, 81, 82, 83, 84, 85, 86, 87, 46, 48, 49, 88, 89, 61, 90, 91, 92, 93, 94, 95, 96, 97, 98, 99, 100, 101, 102, 47, 123, 124, 125, 126, 127, 128, 129, 130, 131] (by decide +kernel) (by decide +kernel)
set_option maxRecDepth 20000 in
theorem gX9_change_X4_answer : GoodIn wsX9_change (wsV RX9 157 RX4 yX4_answer wsX4_answer) := goodIn_app (goodIn_of _ (by decide +kernel)) ggX9_change_X4_answer
theorem dX9_change_0 : decode cX9_change 0 = .ok (.iload 4, 2) := by decide +kernel
theorem dX9_change_2 : decode cX9_change 2 = .ok (.iconst (-1), 1) := by decide +kernel
theorem dX9_change_3 : decode cX9_change 3 = .ok (.if_icmp .eq 15, 3) := by decide +kernel
theorem dX9_change_6 : decode cX9_change 6 = .ok (.aload_n 0, 1) := by decide +kernel
theorem dX9_change_7 : decode cX9_change 7 = .ok (.getfield 61, 3) := by decide +kernel
theorem dX9_change_10 : decode cX9_change 10 = .ok (.iload 4, 2) := by decide +kernel
theorem dX9_change_12 : decode cX9_change 12 = .ok (.invokevirtual 101, 3) := by decide +kernel
theorem dX9_change_15 : decode cX9_change 15 = .ok (.ifCond .eq 7, 3) := by decide +kernel
theorem dX9_change_18 : decode cX9_change 18 = .ok (.iconst 1, 1) := by decide +kernel
theorem dX9_change_19 : decode cX9_change 19 = .ok (.goto 4, 3) := by decide +kernel
theorem dX9_change_22 : decode cX9_change 22 = .ok (.iconst 0, 1) := by decide +kernel
theorem dX9_change_23 : decode cX9_change 23 = .ok (.istore 5, 2) := by decide +kernel
theorem dX9_change_25 : decode cX9_change 25 = .ok (.aload_n 0, 1) := by decide +kernel
theorem dX9_change_26 : decode cX9_change 26 = .ok (.getfield 61, 3) := by decide +kernel
theorem dX9_change_29 : decode cX9_change 29 = .ok (.iload_n 1, 1) := by decide +kernel
theorem dX9_change_30 : decode cX9_change 30 = .ok (.invokevirtual 101, 3) := by decide +kernel
theorem dX9_change_33 : decode cX9_change 33 = .ok (.ifCond .eq 26, 3) := by decide +kernel
theorem dX9_change_36 : decode cX9_change 36 = .ok (.aload_n 0, 1) := by decide +kernel
theorem dX9_change_37 : decode cX9_change 37 = .ok (.getfield 61, 3) := by decide +kernel
theorem dX9_change_40 : decode cX9_change 40 = .ok (.iload_n 2, 1) := by decide +kernel
theorem dX9_change_41 : decode cX9_change 41 = .ok (.invokevirtual 127, 3) := by decide +kernel
theorem dX9_change_44 : decode cX9_change 44 = .ok (.ifCond .eq 15, 3) := by decide +kernel
theorem dX9_change_47 : decode cX9_change 47 = .ok (.iload_n 3, 1) := by decide +kernel
theorem dX9_change_48 : decode cX9_change 48 = .ok (.invokestatic 130, 3) := by decide +kernel
theorem dX9_change_51 : decode cX9_change 51 = .ok (.ifCond .eq 8, 3) := by decide +kernel
theorem dX9_change_54 : decode cX9_change 54 = .ok (.iload 5, 2) := by decide +kernel
theorem dX9_change_56 : decode cX9_change 56 = .ok (.ifCond .ne 5, 3) := by decide +kernel
theorem dX9_change_59 : decode cX9_change 59 = .ok (.iconst (-1), 1) := by decide +kernel
theorem dX9_change_60 : decode cX9_change 60 = .ok (.ireturn, 1) := by decide +kernel
theorem dX9_change_61 : decode cX9_change 61 = .ok (.aload_n 0, 1) := by decide +kernel
theorem dX9_change_62 : decode cX9_change 62 = .ok (.getfield 61, 3) := by decide +kernel
theorem dX9_change_65 : decode cX9_change 65 = .ok (.iload_n 1, 1) := by decide +kernel
theorem dX9_change_66 : decode cX9_change 66 = .ok (.iload_n 2, 1) := by decide +kernel
theorem dX9_change_67 : decode cX9_change 67 = .ok (.invokevirtual 139, 3) := by decide +kernel
theorem dX9_change_70 : decode cX9_change 70 = .ok (.ifCond .ne 20, 3) := by decide +kernel
theorem dX9_change_73 : decode cX9_change 73 = .ok (.aload_n 0, 1) := by decide +kernel
theorem dX9_change_74 : decode cX9_change 74 = .ok (.getfield 61, 3) := by decide +kernel
theorem dX9_change_77 : decode cX9_change 77 = .ok (.invokevirtual 203, 3) := by decide +kernel
theorem dX9_change_80 : decode cX9_change 80 = .ok (.aload_n 0, 1) := by decide +kernel
theorem dX9_change_81 : decode cX9_change 81 = .ok (.getfield 61, 3) := by decide +kernel
theorem dX9_change_84 : decode cX9_change 84 = .ok (.getfield 179, 3) := by decide +kernel
theorem dX9_change_87 : decode cX9_change 87 = .ok (.if_icmp .ge 6, 3) := by decide +kernel
theorem dX9_change_90 : decode cX9_change 90 = .ok (.bipush (-2), 2) := by decide +kernel
theorem dX9_change_92 : decode cX9_change 92 = .ok (.ireturn, 1) := by decide +kernel
theorem dX9_change_93 : decode cX9_change 93 = .ok (.aload_n 0, 1) := by decide +kernel
theorem dX9_change_94 : decode cX9_change 94 = .ok (.getfield 26, 3) := by decide +kernel
theorem dX9_change_97 : decode cX9_change 97 = .ok (.aload_n 0, 1) := by decide +kernel
theorem dX9_change_98 : decode cX9_change 98 = .ok (.getfield 61, 3) := by decide +kernel
theorem dX9_change_101 : decode cX9_change 101 = .ok (.iload_n 3, 1) := by decide +kernel
theorem dX9_change_102 : decode cX9_change 102 = .ok (.invokevirtual 149, 3) := by decide +kernel
theorem dX9_change_105 : decode cX9_change 105 = .ok (.aload_n 0, 1) := by decide +kernel
theorem dX9_change_106 : decode cX9_change 106 = .ok (.getfield 26, 3) := by decide +kernel
theorem dX9_change_109 : decode cX9_change 109 = .ok (.aload_n 0, 1) := by decide +kernel
theorem dX9_change_110 : decode cX9_change 110 = .ok (.getfield 61, 3) := by decide +kernel
theorem dX9_change_113 : decode cX9_change 113 = .ok (.iload_n 1, 1) := by decide +kernel
theorem dX9_change_114 : decode cX9_change 114 = .ok (.iload_n 2, 1) := by decide +kernel
theorem dX9_change_115 : decode cX9_change 115 = .ok (.invokevirtual 206, 3) := by decide +kernel
theorem dX9_change_118 : decode cX9_change 118 = .ok (.aload_n 0, 1) := by decide +kernel
theorem dX9_change_119 : decode cX9_change 119 = .ok (.getfield 26, 3) := by decide +kernel
theorem dX9_change_122 : decode cX9_change 122 = .ok (.iload 4, 2) := by decide +kernel
theorem dX9_change_124 : decode cX9_change 124 = .ok (.invokevirtual 157, 3) := by decide +kernel
theorem dX9_change_127 : decode cX9_change 127 = .ok (.ireturn, 1) := by decide +kernel
set_option maxRecDepth 20000 in
theorem ggX9_pays_X8_hasHouse : GoodIn wsX9_pays wsX8_hasHouse := goodIn_r _ [7, 8, 44, 45, 46, 47, 48, 49, 50, 51, 52, 53] (by decide +kernel) (by decide +kernel)
set_option maxRecDepth 20000 in
theorem gX9_pays_X8_hasHouse : GoodIn wsX9_pays (wsV RX9 101 RX8 yX8_hasHouse wsX8_hasHouse) := goodIn_app (goodIn_of _ (by decide +kernel)) ggX9_pays_X8_hasHouse
set_option maxRecDepth 20000 in
theorem ggX9_pays_X8_touched : GoodIn wsX9_pays wsX8_touched := goodIn_r _ [12, 13, 14, 15, 6, 16, 8, 17, 18, 19, 20, 21, 22, 23, 4, 5, 7, 44, 45, 46, 47, 48, 49, 50, 51, 52, 53] (by decide +kernel) (by decide +kernel)
set_option maxRecDepth 20000 in
theorem gX9_pays_X8_touched : GoodIn wsX9_pays (wsV RX9 118 RX8 yX8_touched wsX8_touched) := goodIn_app (goodIn_of _ (by decide +kernel)) ggX9_pays_X8_touched
set_option maxRecDepth 20000 in
theorem ggX9_pays_X8_priceOf : GoodIn wsX9_pays wsX8_priceOf := goodIn_r _ [27, 28, 29, 30, 31, 6, 32, 33, 44, 45, 46, 47, 48, 49, 50, 51, 52, 53] (by decide +kernel) (by decide +kernel)
set_option maxRecDepth 20000 in
theorem gX9_pays_X8_priceOf : GoodIn wsX9_pays (wsV RX9 133 RX8 yX8_priceOf wsX8_priceOf) := goodIn_app (goodIn_of _ (by decide +kernel)) ggX9_pays_X8_priceOf
theorem dX9_pays_0 : decode cX9_pays 0 = .ok (.aload_n 0, 1) := by decide +kernel
theorem dX9_pays_1 : decode cX9_pays 1 = .ok (.getfield 61, 3) := by decide +kernel
theorem dX9_pays_4 : decode cX9_pays 4 = .ok (.iload_n 1, 1) := by decide +kernel
theorem dX9_pays_5 : decode cX9_pays 5 = .ok (.invokevirtual 101, 3) := by decide +kernel
theorem dX9_pays_8 : decode cX9_pays 8 = .ok (.ifCond .ne 6, 3) := by decide +kernel
theorem dX9_pays_11 : decode cX9_pays 11 = .ok (.ldc 192, 2) := by decide +kernel
theorem dX9_pays_13 : decode cX9_pays 13 = .ok (.ireturn, 1) := by decide +kernel
theorem dX9_pays_14 : decode cX9_pays 14 = .ok (.iconst 0, 1) := by decide +kernel
theorem dX9_pays_15 : decode cX9_pays 15 = .ok (.istore_n 2, 1) := by decide +kernel
theorem dX9_pays_16 : decode cX9_pays 16 = .ok (.aload_n 0, 1) := by decide +kernel
theorem dX9_pays_17 : decode cX9_pays 17 = .ok (.getfield 61, 3) := by decide +kernel
theorem dX9_pays_20 : decode cX9_pays 20 = .ok (.iload_n 1, 1) := by decide +kernel
theorem dX9_pays_21 : decode cX9_pays 21 = .ok (.invokevirtual 118, 3) := by decide +kernel
theorem dX9_pays_24 : decode cX9_pays 24 = .ok (.istore_n 3, 1) := by decide +kernel
theorem dX9_pays_25 : decode cX9_pays 25 = .ok (.iconst 0, 1) := by decide +kernel
theorem dX9_pays_26 : decode cX9_pays 26 = .ok (.istore 4, 2) := by decide +kernel
theorem dX9_pays_28 : decode cX9_pays 28 = .ok (.iload 4, 2) := by decide +kernel
theorem dX9_pays_30 : decode cX9_pays 30 = .ok (.aload_n 0, 1) := by decide +kernel
theorem dX9_pays_31 : decode cX9_pays 31 = .ok (.getfield 61, 3) := by decide +kernel
theorem dX9_pays_34 : decode cX9_pays 34 = .ok (.getfield 179, 3) := by decide +kernel
theorem dX9_pays_37 : decode cX9_pays 37 = .ok (.if_icmp .ge 99, 3) := by decide +kernel
theorem dX9_pays_40 : decode cX9_pays 40 = .ok (.iload_n 3, 1) := by decide +kernel
theorem dX9_pays_41 : decode cX9_pays 41 = .ok (.iload 4, 2) := by decide +kernel
theorem dX9_pays_43 : decode cX9_pays 43 = .ok (.ishr, 1) := by decide +kernel
theorem dX9_pays_44 : decode cX9_pays 44 = .ok (.iconst 1, 1) := by decide +kernel
theorem dX9_pays_45 : decode cX9_pays 45 = .ok (.iand, 1) := by decide +kernel
theorem dX9_pays_46 : decode cX9_pays 46 = .ok (.iconst 1, 1) := by decide +kernel
theorem dX9_pays_47 : decode cX9_pays 47 = .ok (.if_icmp .ne 36, 3) := by decide +kernel
theorem dX9_pays_50 : decode cX9_pays 50 = .ok (.aload_n 0, 1) := by decide +kernel
theorem dX9_pays_51 : decode cX9_pays 51 = .ok (.getfield 61, 3) := by decide +kernel
theorem dX9_pays_54 : decode cX9_pays 54 = .ok (.getfield 112, 3) := by decide +kernel
theorem dX9_pays_57 : decode cX9_pays 57 = .ok (.iload_n 1, 1) := by decide +kernel
theorem dX9_pays_58 : decode cX9_pays 58 = .ok (.iaload, 1) := by decide +kernel
theorem dX9_pays_59 : decode cX9_pays 59 = .ok (.bipush (-9), 2) := by decide +kernel
theorem dX9_pays_61 : decode cX9_pays 61 = .ok (.if_icmp .eq 22, 3) := by decide +kernel
theorem dX9_pays_64 : decode cX9_pays 64 = .ok (.aload_n 0, 1) := by decide +kernel
theorem dX9_pays_65 : decode cX9_pays 65 = .ok (.getfield 61, 3) := by decide +kernel
theorem dX9_pays_68 : decode cX9_pays 68 = .ok (.getfield 112, 3) := by decide +kernel
theorem dX9_pays_71 : decode cX9_pays 71 = .ok (.iload 4, 2) := by decide +kernel
theorem dX9_pays_73 : decode cX9_pays 73 = .ok (.iaload, 1) := by decide +kernel
theorem dX9_pays_74 : decode cX9_pays 74 = .ok (.bipush (-9), 2) := by decide +kernel
theorem dX9_pays_76 : decode cX9_pays 76 = .ok (.if_icmp .eq 7, 3) := by decide +kernel
theorem dX9_pays_79 : decode cX9_pays 79 = .ok (.iconst 1, 1) := by decide +kernel
theorem dX9_pays_80 : decode cX9_pays 80 = .ok (.goto 4, 3) := by decide +kernel
theorem dX9_pays_83 : decode cX9_pays 83 = .ok (.iconst 0, 1) := by decide +kernel
theorem dX9_pays_84 : decode cX9_pays 84 = .ok (.istore 5, 2) := by decide +kernel
theorem dX9_pays_86 : decode cX9_pays 86 = .ok (.iload 5, 2) := by decide +kernel
theorem dX9_pays_88 : decode cX9_pays 88 = .ok (.ifCond .eq 42, 3) := by decide +kernel
theorem dX9_pays_91 : decode cX9_pays 91 = .ok (.iload_n 2, 1) := by decide +kernel
theorem dX9_pays_92 : decode cX9_pays 92 = .ok (.aload_n 0, 1) := by decide +kernel
theorem dX9_pays_93 : decode cX9_pays 93 = .ok (.getfield 61, 3) := by decide +kernel
theorem dX9_pays_96 : decode cX9_pays 96 = .ok (.aload_n 0, 1) := by decide +kernel
theorem dX9_pays_97 : decode cX9_pays 97 = .ok (.getfield 61, 3) := by decide +kernel
theorem dX9_pays_100 : decode cX9_pays 100 = .ok (.getfield 112, 3) := by decide +kernel
theorem dX9_pays_103 : decode cX9_pays 103 = .ok (.iload_n 1, 1) := by decide +kernel
theorem dX9_pays_104 : decode cX9_pays 104 = .ok (.iaload, 1) := by decide +kernel
theorem dX9_pays_105 : decode cX9_pays 105 = .ok (.invokevirtual 133, 3) := by decide +kernel
theorem dX9_pays_108 : decode cX9_pays 108 = .ok (.aload_n 0, 1) := by decide +kernel
theorem dX9_pays_109 : decode cX9_pays 109 = .ok (.getfield 61, 3) := by decide +kernel
theorem dX9_pays_112 : decode cX9_pays 112 = .ok (.aload_n 0, 1) := by decide +kernel
theorem dX9_pays_113 : decode cX9_pays 113 = .ok (.getfield 61, 3) := by decide +kernel
theorem dX9_pays_116 : decode cX9_pays 116 = .ok (.getfield 112, 3) := by decide +kernel
theorem dX9_pays_119 : decode cX9_pays 119 = .ok (.iload 4, 2) := by decide +kernel
theorem dX9_pays_121 : decode cX9_pays 121 = .ok (.iaload, 1) := by decide +kernel
theorem dX9_pays_122 : decode cX9_pays 122 = .ok (.invokevirtual 133, 3) := by decide +kernel
theorem dX9_pays_125 : decode cX9_pays 125 = .ok (.isub, 1) := by decide +kernel
theorem dX9_pays_126 : decode cX9_pays 126 = .ok (.iconst 2, 1) := by decide +kernel
theorem dX9_pays_127 : decode cX9_pays 127 = .ok (.idiv, 1) := by decide +kernel
theorem dX9_pays_128 : decode cX9_pays 128 = .ok (.iadd, 1) := by decide +kernel
theorem dX9_pays_129 : decode cX9_pays 129 = .ok (.istore_n 2, 1) := by decide +kernel
theorem dX9_pays_130 : decode cX9_pays 130 = .ok (.iinc 4 1, 3) := by decide +kernel
theorem dX9_pays_133 : decode cX9_pays 133 = .ok (.goto (-105), 3) := by decide +kernel
theorem dX9_pays_136 : decode cX9_pays 136 = .ok (.iload_n 2, 1) := by decide +kernel
theorem dX9_pays_137 : decode cX9_pays 137 = .ok (.ireturn, 1) := by decide +kernel
set_option maxRecDepth 20000 in
theorem ggX9_order_X9_isFlag : GoodIn wsX9_order wsX9_isFlag := goodIn_r _ [5] (by decide +kernel) (by decide +kernel)
set_option maxRecDepth 20000 in
theorem gX9_order_X9_isFlag : GoodIn wsX9_order (va_wsS RX9 130 yX9_isFlag wsX9_isFlag) := goodIn_app (goodIn_of _ (by decide +kernel)) ggX9_order_X9_isFlag
set_option maxRecDepth 20000 in
theorem ggX9_order_X8_unlawfulPairs : GoodIn wsX9_order wsX8_unlawfulPairs := goodIn_r _ [10, 11, 12, 13, 14, 15, 9, 16, 17, 18, 19, 20, 21, 22, 23, 24, 25, 26, 27, 28, 29, 30, 31, 32, 33, 34, 35, 36, 37, 38, 39, 40, 41, 52, 53, 54, 55, 56, 57, 58, 59, 60, 61] (by decide +kernel) (by decide +kernel)
set_option maxRecDepth 20000 in
theorem gX9_order_X8_unlawfulPairs : GoodIn wsX9_order (wsV RX9 146 RX8 yX8_unlawfulPairs wsX8_unlawfulPairs) := goodIn_app (goodIn_of _ (by decide +kernel)) ggX9_order_X8_unlawfulPairs
theorem dX9_order_0 : decode cX9_order 0 = .ok (.iload_n 2, 1) := by decide +kernel
theorem dX9_order_1 : decode cX9_order 1 = .ok (.invokestatic 130, 3) := by decide +kernel
theorem dX9_order_4 : decode cX9_order 4 = .ok (.ifCond .eq 7, 3) := by decide +kernel
theorem dX9_order_7 : decode cX9_order 7 = .ok (.iload_n 3, 1) := by decide +kernel
theorem dX9_order_8 : decode cX9_order 8 = .ok (.ifCond .ge 5, 3) := by decide +kernel
theorem dX9_order_11 : decode cX9_order 11 = .ok (.iconst (-1), 1) := by decide +kernel
theorem dX9_order_12 : decode cX9_order 12 = .ok (.ireturn, 1) := by decide +kernel
theorem dX9_order_13 : decode cX9_order 13 = .ok (.aload_n 0, 1) := by decide +kernel
theorem dX9_order_14 : decode cX9_order 14 = .ok (.getfield 61, 3) := by decide +kernel
theorem dX9_order_17 : decode cX9_order 17 = .ok (.iload_n 2, 1) := by decide +kernel
theorem dX9_order_18 : decode cX9_order 18 = .ok (.invokevirtual 146, 3) := by decide +kernel
theorem dX9_order_21 : decode cX9_order 21 = .ok (.ifCond .le 6, 3) := by decide +kernel
theorem dX9_order_24 : decode cX9_order 24 = .ok (.bipush (-9), 2) := by decide +kernel
theorem dX9_order_26 : decode cX9_order 26 = .ok (.ireturn, 1) := by decide +kernel
theorem dX9_order_27 : decode cX9_order 27 = .ok (.iconst 0, 1) := by decide +kernel
theorem dX9_order_28 : decode cX9_order 28 = .ok (.istore 4, 2) := by decide +kernel
theorem dX9_order_30 : decode cX9_order 30 = .ok (.iconst 0, 1) := by decide +kernel
theorem dX9_order_31 : decode cX9_order 31 = .ok (.istore 5, 2) := by decide +kernel
theorem dX9_order_33 : decode cX9_order 33 = .ok (.iload 5, 2) := by decide +kernel
theorem dX9_order_35 : decode cX9_order 35 = .ok (.aload_n 0, 1) := by decide +kernel
theorem dX9_order_36 : decode cX9_order 36 = .ok (.getfield 61, 3) := by decide +kernel
theorem dX9_order_39 : decode cX9_order 39 = .ok (.getfield 179, 3) := by decide +kernel
theorem dX9_order_42 : decode cX9_order 42 = .ok (.if_icmp .ge 45, 3) := by decide +kernel
theorem dX9_order_45 : decode cX9_order 45 = .ok (.aload_n 0, 1) := by decide +kernel
theorem dX9_order_46 : decode cX9_order 46 = .ok (.getfield 61, 3) := by decide +kernel
theorem dX9_order_49 : decode cX9_order 49 = .ok (.getfield 112, 3) := by decide +kernel
theorem dX9_order_52 : decode cX9_order 52 = .ok (.iload 5, 2) := by decide +kernel
theorem dX9_order_54 : decode cX9_order 54 = .ok (.iaload, 1) := by decide +kernel
theorem dX9_order_55 : decode cX9_order 55 = .ok (.bipush (-9), 2) := by decide +kernel
theorem dX9_order_57 : decode cX9_order 57 = .ok (.if_icmp .eq 24, 3) := by decide +kernel
theorem dX9_order_60 : decode cX9_order 60 = .ok (.iload_n 1, 1) := by decide +kernel
theorem dX9_order_61 : decode cX9_order 61 = .ok (.iload 5, 2) := by decide +kernel
theorem dX9_order_63 : decode cX9_order 63 = .ok (.ishr, 1) := by decide +kernel
theorem dX9_order_64 : decode cX9_order 64 = .ok (.iconst 1, 1) := by decide +kernel
theorem dX9_order_65 : decode cX9_order 65 = .ok (.iand, 1) := by decide +kernel
theorem dX9_order_66 : decode cX9_order 66 = .ok (.ifCond .ne 15, 3) := by decide +kernel
theorem dX9_order_69 : decode cX9_order 69 = .ok (.iload 4, 2) := by decide +kernel
theorem dX9_order_71 : decode cX9_order 71 = .ok (.iload_n 3, 1) := by decide +kernel
theorem dX9_order_72 : decode cX9_order 72 = .ok (.if_icmp .ne 6, 3) := by decide +kernel
theorem dX9_order_75 : decode cX9_order 75 = .ok (.iload 5, 2) := by decide +kernel
theorem dX9_order_77 : decode cX9_order 77 = .ok (.ireturn, 1) := by decide +kernel
theorem dX9_order_78 : decode cX9_order 78 = .ok (.iinc 4 1, 3) := by decide +kernel
theorem dX9_order_81 : decode cX9_order 81 = .ok (.iinc 5 1, 3) := by decide +kernel
theorem dX9_order_84 : decode cX9_order 84 = .ok (.goto (-51), 3) := by decide +kernel
theorem dX9_order_87 : decode cX9_order 87 = .ok (.bipush (-5), 2) := by decide +kernel
theorem dX9_order_89 : decode cX9_order 89 = .ok (.ireturn, 1) := by decide +kernel
set_option maxRecDepth 20000 in
theorem ggX9_years_X8_hasSort : GoodIn wsX9_years wsX8_hasSort := goodIn_r _ [7, 8, 102, 103, 104, 105, 106, 107, 108, 109, 110, 111] (by decide +kernel) (by decide +kernel)
set_option maxRecDepth 20000 in
theorem gX9_years_X8_hasSort : GoodIn wsX9_years (wsV RX9 127 RX8 yX8_hasSort wsX8_hasSort) := goodIn_app (goodIn_of _ (by decide +kernel)) ggX9_years_X8_hasSort
set_option maxRecDepth 20000 in
theorem ggX9_years_X9_nextDraw : GoodIn wsX9_years wsX9_nextDraw := goodIn_r _ [13, 14, 15, 92, 93, 94, 95, 96, 97, 98, 99, 100, 101] (by decide +kernel) (by decide +kernel)
set_option maxRecDepth 20000 in
theorem gX9_years_X9_nextDraw : GoodIn wsX9_years (wsV RX9 210 RX9 yX9_nextDraw wsX9_nextDraw) := goodIn_app (goodIn_of _ (by decide +kernel)) ggX9_years_X9_nextDraw
set_option maxRecDepth 20000 in
theorem ggX9_years_X9_pricesLostIfAll : GoodIn wsX9_years wsX9_pricesLostIfAll := goodIn_r _ [19, 1, 20, 21, 22, 23, 6, 24, 25, 26, 4, 5, 7, 8, 27, 28, 29, 30, 31, 32, 33, 34, 35, 36, 37, 38, 39, 40, 41, 42, 43, 44, 45, 46, 47, 48, 49, 50, 51, 52, 53, 54, 55, 56, 57, 58, 59, 60, 61, 62, 63, 64, 65, 66, 67, 68, 69, 70, 71, 72, 73, 74, 75, 76, 77, 92, 93, 94, 95, 96, 97, 98, 99, 100, 101, 102, 103, 104, 105, 106, 107, 108, 109, 110, 111, 112, 113, 114] (by decide +kernel) (by decide +kernel)
set_option maxRecDepth 20000 in
theorem gX9_years_X9_pricesLostIfAll : GoodIn wsX9_years (wsV RX9 213 RX9 yX9_pricesLostIfAll wsX9_pricesLostIfAll) := goodIn_app (goodIn_of _ (by decide +kernel)) ggX9_years_X9_pricesLostIfAll
set_option maxRecDepth 20000 in
theorem ggX9_years_X9_pricesLost : GoodIn wsX9_years wsX9_pricesLost := goodIn_r _ [81, 1, 20, 82, 83, 84, 6, 85, 86, 50, 51, 52, 53, 43, 87, 22, 23, 24, 25, 26, 4, 5, 7, 8, 88, 89, 90, 91, 27, 28, 29, 30, 31, 32, 33, 34, 35, 36, 37, 38, 39, 40, 41, 42, 44, 45, 46, 47, 48, 49, 54, 55, 56, 57, 58, 59, 60, 61, 62, 63, 64, 65, 66, 67, 68, 69, 70, 71, 72, 73, 74, 75, 76, 77, 92, 93, 94, 95, 96, 97, 98, 99, 100, 101, 102, 103, 104, 105, 106, 107, 108, 109, 110, 111, 112, 113, 114] (by decide +kernel) (by decide +kernel)
set_option maxRecDepth 20000 in
theorem gX9_years_X9_pricesLost : GoodIn wsX9_years (wsV RX9 182 RX9 yX9_pricesLost wsX9_pricesLost) := goodIn_app (goodIn_of _ (by decide +kernel)) ggX9_years_X9_pricesLost
theorem dX9_years_0 : decode cX9_years 0 = .ok (.iload_n 1, 1) := by decide +kernel
theorem dX9_years_1 : decode cX9_years 1 = .ok (.iconst 1, 1) := by decide +kernel
theorem dX9_years_2 : decode cX9_years 2 = .ok (.if_icmp .lt 30, 3) := by decide +kernel
theorem dX9_years_5 : decode cX9_years 5 = .ok (.iload_n 1, 1) := by decide +kernel
theorem dX9_years_6 : decode cX9_years 6 = .ok (.bipush 99, 2) := by decide +kernel
theorem dX9_years_8 : decode cX9_years 8 = .ok (.if_icmp .gt 24, 3) := by decide +kernel
theorem dX9_years_11 : decode cX9_years 11 = .ok (.aload_n 0, 1) := by decide +kernel
theorem dX9_years_12 : decode cX9_years 12 = .ok (.getfield 61, 3) := by decide +kernel
theorem dX9_years_15 : decode cX9_years 15 = .ok (.iload_n 2, 1) := by decide +kernel
theorem dX9_years_16 : decode cX9_years 16 = .ok (.invokevirtual 127, 3) := by decide +kernel
theorem dX9_years_19 : decode cX9_years 19 = .ok (.ifCond .eq 13, 3) := by decide +kernel
theorem dX9_years_22 : decode cX9_years 22 = .ok (.aload_n 0, 1) := by decide +kernel
theorem dX9_years_23 : decode cX9_years 23 = .ok (.getfield 61, 3) := by decide +kernel
theorem dX9_years_26 : decode cX9_years 26 = .ok (.getfield 179, 3) := by decide +kernel
theorem dX9_years_29 : decode cX9_years 29 = .ok (.ifCond .ne 6, 3) := by decide +kernel
theorem dX9_years_32 : decode cX9_years 32 = .ok (.ldc 192, 2) := by decide +kernel
theorem dX9_years_34 : decode cX9_years 34 = .ok (.ireturn, 1) := by decide +kernel
theorem dX9_years_35 : decode cX9_years 35 = .ok (.iconst 0, 1) := by decide +kernel
theorem dX9_years_36 : decode cX9_years 36 = .ok (.istore_n 3, 1) := by decide +kernel
theorem dX9_years_37 : decode cX9_years 37 = .ok (.iconst 0, 1) := by decide +kernel
theorem dX9_years_38 : decode cX9_years 38 = .ok (.istore 4, 2) := by decide +kernel
theorem dX9_years_40 : decode cX9_years 40 = .ok (.iload 4, 2) := by decide +kernel
theorem dX9_years_42 : decode cX9_years 42 = .ok (.iload_n 1, 1) := by decide +kernel
theorem dX9_years_43 : decode cX9_years 43 = .ok (.if_icmp .ge 52, 3) := by decide +kernel
theorem dX9_years_46 : decode cX9_years 46 = .ok (.aload_n 0, 1) := by decide +kernel
theorem dX9_years_47 : decode cX9_years 47 = .ok (.invokevirtual 210, 3) := by decide +kernel
theorem dX9_years_50 : decode cX9_years 50 = .ok (.aload_n 0, 1) := by decide +kernel
theorem dX9_years_51 : decode cX9_years 51 = .ok (.getfield 61, 3) := by decide +kernel
theorem dX9_years_54 : decode cX9_years 54 = .ok (.getfield 179, 3) := by decide +kernel
theorem dX9_years_57 : decode cX9_years 57 = .ok (.irem, 1) := by decide +kernel
theorem dX9_years_58 : decode cX9_years 58 = .ok (.istore 5, 2) := by decide +kernel
theorem dX9_years_60 : decode cX9_years 60 = .ok (.aload_n 0, 1) := by decide +kernel
theorem dX9_years_61 : decode cX9_years 61 = .ok (.invokevirtual 210, 3) := by decide +kernel
theorem dX9_years_64 : decode cX9_years 64 = .ok (.iconst 5, 1) := by decide +kernel
theorem dX9_years_65 : decode cX9_years 65 = .ok (.irem, 1) := by decide +kernel
theorem dX9_years_66 : decode cX9_years 66 = .ok (.istore 6, 2) := by decide +kernel
theorem dX9_years_68 : decode cX9_years 68 = .ok (.iload_n 3, 1) := by decide +kernel
theorem dX9_years_69 : decode cX9_years 69 = .ok (.aload_n 0, 1) := by decide +kernel
theorem dX9_years_70 : decode cX9_years 70 = .ok (.iload_n 2, 1) := by decide +kernel
theorem dX9_years_71 : decode cX9_years 71 = .ok (.iload 5, 2) := by decide +kernel
theorem dX9_years_73 : decode cX9_years 73 = .ok (.iload 6, 2) := by decide +kernel
theorem dX9_years_75 : decode cX9_years 75 = .ok (.invokevirtual 213, 3) := by decide +kernel
theorem dX9_years_78 : decode cX9_years 78 = .ok (.aload_n 0, 1) := by decide +kernel
theorem dX9_years_79 : decode cX9_years 79 = .ok (.iload 5, 2) := by decide +kernel
theorem dX9_years_81 : decode cX9_years 81 = .ok (.iload 6, 2) := by decide +kernel
theorem dX9_years_83 : decode cX9_years 83 = .ok (.invokevirtual 182, 3) := by decide +kernel
theorem dX9_years_86 : decode cX9_years 86 = .ok (.isub, 1) := by decide +kernel
theorem dX9_years_87 : decode cX9_years 87 = .ok (.iadd, 1) := by decide +kernel
theorem dX9_years_88 : decode cX9_years 88 = .ok (.istore_n 3, 1) := by decide +kernel
theorem dX9_years_89 : decode cX9_years 89 = .ok (.iinc 4 1, 3) := by decide +kernel
theorem dX9_years_92 : decode cX9_years 92 = .ok (.goto (-52), 3) := by decide +kernel
theorem dX9_years_95 : decode cX9_years 95 = .ok (.iload_n 3, 1) := by decide +kernel
theorem dX9_years_96 : decode cX9_years 96 = .ok (.ireturn, 1) := by decide +kernel
theorem dX9_lot_0 : decode cX9_lot 0 = .ok (.aload_n 0, 1) := by decide +kernel
theorem dX9_lot_1 : decode cX9_lot 1 = .ok (.getfield 68, 3) := by decide +kernel
theorem dX9_lot_4 : decode cX9_lot 4 = .ok (.istore_n 2, 1) := by decide +kernel
theorem dX9_lot_5 : decode cX9_lot 5 = .ok (.aload_n 0, 1) := by decide +kernel
theorem dX9_lot_6 : decode cX9_lot 6 = .ok (.iload_n 1, 1) := by decide +kernel
theorem dX9_lot_7 : decode cX9_lot 7 = .ok (.putfield 68, 3) := by decide +kernel
theorem dX9_lot_10 : decode cX9_lot 10 = .ok (.iload_n 2, 1) := by decide +kernel
theorem dX9_lot_11 : decode cX9_lot 11 = .ok (.ireturn, 1) := by decide +kernel
set_option maxRecDepth 20000 in
theorem ggX9_rate_X8_hasHouse : GoodIn wsX9_rate wsX8_hasHouse := goodIn_r _ [8, 9, 93, 94, 95, 96, 97, 98, 99, 100, 101, 102] (by decide +kernel) (by decide +kernel)
set_option maxRecDepth 20000 in
theorem gX9_rate_X8_hasHouse : GoodIn wsX9_rate (wsV RX9 101 RX8 yX8_hasHouse wsX8_hasHouse) := goodIn_app (goodIn_of _ (by decide +kernel)) ggX9_rate_X8_hasHouse
set_option maxRecDepth 20000 in
theorem ggX9_rate_X2_of : GoodIn wsX9_rate wsX2_of := goodIn_r _ [14, 15, 16, 17, 13, 18, 19, 20, 21, 5, 6, 7, 8, 9, 22, 23, 24, 25, 26, 27, 28, 29, 30, 31, 32, 33, 34, 35, 36, 37, 38, 39, 40, 41, 42, 43, 44, 45, 46, 47, 48, 49, 50, 51, 52, 53, 54, 55, 56, 57, 58, 59, 60, 61, 62, 63, 64, 65, 66, 67, 68, 69, 70, 71, 72, 73, 74, 75, 76, 77, 78, 79, 80, 81, 82, 103, 93, 94, 95, 96, 97, 98, 99, 100, 101, 102] (by decide +kernel) (by decide +kernel)
set_option maxRecDepth 20000 in
theorem gX9_rate_X2_of : GoodIn wsX9_rate (wsV RX9 217 RX2 yX2_of wsX2_of) := goodIn_app (goodIn_of _ (by decide +kernel)) ggX9_rate_X2_of
theorem dX9_rate_0 : decode cX9_rate 0 = .ok (.iload_n 1, 1) := by decide +kernel
theorem dX9_rate_1 : decode cX9_rate 1 = .ok (.ifCond .lt 19, 3) := by decide +kernel
theorem dX9_rate_4 : decode cX9_rate 4 = .ok (.iload_n 1, 1) := by decide +kernel
theorem dX9_rate_5 : decode cX9_rate 5 = .ok (.iconst 5, 1) := by decide +kernel
theorem dX9_rate_6 : decode cX9_rate 6 = .ok (.if_icmp .gt 14, 3) := by decide +kernel
theorem dX9_rate_9 : decode cX9_rate 9 = .ok (.aload_n 0, 1) := by decide +kernel
theorem dX9_rate_10 : decode cX9_rate 10 = .ok (.getfield 61, 3) := by decide +kernel
theorem dX9_rate_13 : decode cX9_rate 13 = .ok (.iload_n 2, 1) := by decide +kernel
theorem dX9_rate_14 : decode cX9_rate 14 = .ok (.invokevirtual 101, 3) := by decide +kernel
theorem dX9_rate_17 : decode cX9_rate 17 = .ok (.ifCond .ne 6, 3) := by decide +kernel
theorem dX9_rate_20 : decode cX9_rate 20 = .ok (.ldc 192, 2) := by decide +kernel
theorem dX9_rate_22 : decode cX9_rate 22 = .ok (.ireturn, 1) := by decide +kernel
theorem dX9_rate_23 : decode cX9_rate 23 = .ok (.aload_n 0, 1) := by decide +kernel
theorem dX9_rate_24 : decode cX9_rate 24 = .ok (.getfield 47, 3) := by decide +kernel
theorem dX9_rate_27 : decode cX9_rate 27 = .ok (.aload_n 0, 1) := by decide +kernel
theorem dX9_rate_28 : decode cX9_rate 28 = .ok (.getfield 61, 3) := by decide +kernel
theorem dX9_rate_31 : decode cX9_rate 31 = .ok (.iload_n 1, 1) := by decide +kernel
theorem dX9_rate_32 : decode cX9_rate 32 = .ok (.iload_n 2, 1) := by decide +kernel
theorem dX9_rate_33 : decode cX9_rate 33 = .ok (.invokevirtual 217, 3) := by decide +kernel
theorem dX9_rate_36 : decode cX9_rate 36 = .ok (.ireturn, 1) := by decide +kernel
set_option maxRecDepth 20000 in
theorem ggX9_keep_X9_isFlag : GoodIn wsX9_keep wsX9_isFlag := goodIn_r _ [8] (by decide +kernel) (by decide +kernel)
set_option maxRecDepth 20000 in
theorem gX9_keep_X9_isFlag : GoodIn wsX9_keep (va_wsS RX9 130 yX9_isFlag wsX9_isFlag) := goodIn_app (goodIn_of _ (by decide +kernel)) ggX9_keep_X9_isFlag
set_option maxRecDepth 20000 in
theorem ggX9_keep_X1_take : GoodIn wsX9_keep wsX1_take := goodIn_r _ [13, 14, 15, 16, 17, 18, 19, 20, 21, 22, 23, 24, 25, 26, 27, 28, 29, 30, 31, 45, 46, 47, 48, 49, 50, 51, 52, 53, 54, 55, 56, 57, 58, 59, 42, 43, 44] (by decide +kernel) (by decide +kernel)
set_option maxRecDepth 20000 in
theorem gX9_keep_X1_take : GoodIn wsX9_keep (wsV RX9 221 RX1 yX1_take wsX1_take) := goodIn_app (goodIn_of _ (by decide +kernel)) ggX9_keep_X1_take
theorem dX9_keep_0 : decode cX9_keep 0 = .ok (.iload_n 1, 1) := by decide +kernel
theorem dX9_keep_1 : decode cX9_keep 1 = .ok (.invokestatic 130, 3) := by decide +kernel
theorem dX9_keep_4 : decode cX9_keep 4 = .ok (.ifCond .eq 12, 3) := by decide +kernel
theorem dX9_keep_7 : decode cX9_keep 7 = .ok (.iload_n 1, 1) := by decide +kernel
theorem dX9_keep_8 : decode cX9_keep 8 = .ok (.aload_n 0, 1) := by decide +kernel
theorem dX9_keep_9 : decode cX9_keep 9 = .ok (.getfield 53, 3) := by decide +kernel
theorem dX9_keep_12 : decode cX9_keep 12 = .ok (.arraylength, 1) := by decide +kernel
theorem dX9_keep_13 : decode cX9_keep 13 = .ok (.if_icmp .lt 5, 3) := by decide +kernel
theorem dX9_keep_16 : decode cX9_keep 16 = .ok (.iconst (-1), 1) := by decide +kernel
theorem dX9_keep_17 : decode cX9_keep 17 = .ok (.ireturn, 1) := by decide +kernel
theorem dX9_keep_18 : decode cX9_keep 18 = .ok (.aload_n 0, 1) := by decide +kernel
theorem dX9_keep_19 : decode cX9_keep 19 = .ok (.getfield 53, 3) := by decide +kernel
theorem dX9_keep_22 : decode cX9_keep 22 = .ok (.iload_n 1, 1) := by decide +kernel
theorem dX9_keep_23 : decode cX9_keep 23 = .ok (.aaload, 1) := by decide +kernel
theorem dX9_keep_24 : decode cX9_keep 24 = .ok (.aload_n 0, 1) := by decide +kernel
theorem dX9_keep_25 : decode cX9_keep 25 = .ok (.getfield 61, 3) := by decide +kernel
theorem dX9_keep_28 : decode cX9_keep 28 = .ok (.aload_n 0, 1) := by decide +kernel
theorem dX9_keep_29 : decode cX9_keep 29 = .ok (.getfield 68, 3) := by decide +kernel
theorem dX9_keep_32 : decode cX9_keep 32 = .ok (.aload_n 0, 1) := by decide +kernel
theorem dX9_keep_33 : decode cX9_keep 33 = .ok (.getfield 40, 3) := by decide +kernel
theorem dX9_keep_36 : decode cX9_keep 36 = .ok (.invokevirtual 221, 3) := by decide +kernel
theorem dX9_keep_39 : decode cX9_keep 39 = .ok (.aload_n 0, 1) := by decide +kernel
theorem dX9_keep_40 : decode cX9_keep 40 = .ok (.getfield 40, 3) := by decide +kernel
theorem dX9_keep_43 : decode cX9_keep 43 = .ok (.getfield 196, 3) := by decide +kernel
theorem dX9_keep_46 : decode cX9_keep 46 = .ok (.ireturn, 1) := by decide +kernel
set_option maxRecDepth 20000 in
theorem ggX9_back_X9_isFlag : GoodIn wsX9_back wsX9_isFlag := goodIn_r _ [8] (by decide +kernel) (by decide +kernel)
set_option maxRecDepth 20000 in
theorem gX9_back_X9_isFlag : GoodIn wsX9_back (va_wsS RX9 130 yX9_isFlag wsX9_isFlag) := goodIn_app (goodIn_of _ (by decide +kernel)) ggX9_back_X9_isFlag
set_option maxRecDepth 20000 in
theorem ggX9_back_X1_giveBack : GoodIn wsX9_back wsX1_giveBack := goodIn_r _ [13, 14, 15, 16, 17, 18, 19, 20, 21, 22, 23, 24, 25, 26, 27, 28, 29, 40, 41, 42, 43, 44, 48, 49, 50, 51, 52, 53, 54, 55, 56, 57, 45, 46, 47] (by decide +kernel) (by decide +kernel)
set_option maxRecDepth 20000 in
theorem gX9_back_X1_giveBack : GoodIn wsX9_back (wsV RX9 225 RX1 yX1_giveBack wsX1_giveBack) := goodIn_app (goodIn_of _ (by decide +kernel)) ggX9_back_X1_giveBack
theorem dX9_back_0 : decode cX9_back 0 = .ok (.iload_n 1, 1) := by decide +kernel
theorem dX9_back_1 : decode cX9_back 1 = .ok (.invokestatic 130, 3) := by decide +kernel
theorem dX9_back_4 : decode cX9_back 4 = .ok (.ifCond .eq 12, 3) := by decide +kernel
theorem dX9_back_7 : decode cX9_back 7 = .ok (.iload_n 1, 1) := by decide +kernel
theorem dX9_back_8 : decode cX9_back 8 = .ok (.aload_n 0, 1) := by decide +kernel
theorem dX9_back_9 : decode cX9_back 9 = .ok (.getfield 53, 3) := by decide +kernel
theorem dX9_back_12 : decode cX9_back 12 = .ok (.arraylength, 1) := by decide +kernel
theorem dX9_back_13 : decode cX9_back 13 = .ok (.if_icmp .lt 5, 3) := by decide +kernel
theorem dX9_back_16 : decode cX9_back 16 = .ok (.iconst (-1), 1) := by decide +kernel
theorem dX9_back_17 : decode cX9_back 17 = .ok (.ireturn, 1) := by decide +kernel
theorem dX9_back_18 : decode cX9_back 18 = .ok (.aload_n 0, 1) := by decide +kernel
theorem dX9_back_19 : decode cX9_back 19 = .ok (.getfield 53, 3) := by decide +kernel
theorem dX9_back_22 : decode cX9_back 22 = .ok (.iload_n 1, 1) := by decide +kernel
theorem dX9_back_23 : decode cX9_back 23 = .ok (.aaload, 1) := by decide +kernel
theorem dX9_back_24 : decode cX9_back 24 = .ok (.getfield 97, 3) := by decide +kernel
theorem dX9_back_27 : decode cX9_back 27 = .ok (.ifCond .ne 6, 3) := by decide +kernel
theorem dX9_back_30 : decode cX9_back 30 = .ok (.bipush (-2), 2) := by decide +kernel
theorem dX9_back_32 : decode cX9_back 32 = .ok (.ireturn, 1) := by decide +kernel
theorem dX9_back_33 : decode cX9_back 33 = .ok (.aload_n 0, 1) := by decide +kernel
theorem dX9_back_34 : decode cX9_back 34 = .ok (.getfield 53, 3) := by decide +kernel
theorem dX9_back_37 : decode cX9_back 37 = .ok (.iload_n 1, 1) := by decide +kernel
theorem dX9_back_38 : decode cX9_back 38 = .ok (.aaload, 1) := by decide +kernel
theorem dX9_back_39 : decode cX9_back 39 = .ok (.aload_n 0, 1) := by decide +kernel
theorem dX9_back_40 : decode cX9_back 40 = .ok (.getfield 61, 3) := by decide +kernel
theorem dX9_back_43 : decode cX9_back 43 = .ok (.aload_n 0, 1) := by decide +kernel
theorem dX9_back_44 : decode cX9_back 44 = .ok (.getfield 40, 3) := by decide +kernel
theorem dX9_back_47 : decode cX9_back 47 = .ok (.invokevirtual 225, 3) := by decide +kernel
theorem dX9_back_50 : decode cX9_back 50 = .ok (.aload_n 0, 1) := by decide +kernel
theorem dX9_back_51 : decode cX9_back 51 = .ok (.aload_n 0, 1) := by decide +kernel
theorem dX9_back_52 : decode cX9_back 52 = .ok (.getfield 53, 3) := by decide +kernel
theorem dX9_back_55 : decode cX9_back 55 = .ok (.iload_n 1, 1) := by decide +kernel
theorem dX9_back_56 : decode cX9_back 56 = .ok (.aaload, 1) := by decide +kernel
theorem dX9_back_57 : decode cX9_back 57 = .ok (.getfield 229, 3) := by decide +kernel
theorem dX9_back_60 : decode cX9_back 60 = .ok (.putfield 68, 3) := by decide +kernel
theorem dX9_back_63 : decode cX9_back 63 = .ok (.aload_n 0, 1) := by decide +kernel
theorem dX9_back_64 : decode cX9_back 64 = .ok (.getfield 40, 3) := by decide +kernel
theorem dX9_back_67 : decode cX9_back 67 = .ok (.getfield 196, 3) := by decide +kernel
theorem dX9_back_70 : decode cX9_back 70 = .ok (.ireturn, 1) := by decide +kernel
set_option maxRecDepth 20000 in
theorem ggX9_count_X8_howManyRoofs : GoodIn wsX9_count wsX8_howManyRoofs := goodIn_r _ [8, 9, 10, 11, 12, 7, 13, 14, 15, 16, 17, 18, 19, 20, 21, 54, 55, 56, 57, 58, 59, 60, 61, 62, 63] (by decide +kernel) (by decide +kernel)
set_option maxRecDepth 20000 in
theorem gX9_count_X8_howManyRoofs : GoodIn wsX9_count (wsV RX9 203 RX8 yX8_howManyRoofs wsX8_howManyRoofs) := goodIn_app (goodIn_of _ (by decide +kernel)) ggX9_count_X8_howManyRoofs
set_option maxRecDepth 20000 in
theorem ggX9_count_X8_pairsThatTouch : GoodIn wsX9_count wsX8_pairsThatTouch := goodIn_r _ [25, 9, 26, 27, 28, 7, 29, 30, 31, 32, 33, 34, 35, 36, 37, 38, 39, 40, 41, 42, 43, 15, 16, 17, 18, 19, 20, 21, 54, 55, 56, 57, 58, 59, 60, 61, 62, 63] (by decide +kernel) (by decide +kernel)
set_option maxRecDepth 20000 in
theorem gX9_count_X8_pairsThatTouch : GoodIn wsX9_count (wsV RX9 233 RX8 yX8_pairsThatTouch wsX8_pairsThatTouch) := goodIn_app (goodIn_of _ (by decide +kernel)) ggX9_count_X8_pairsThatTouch
theorem dX9_count_0 : decode cX9_count 0 = .ok (.iload_n 1, 1) := by decide +kernel
theorem dX9_count_1 : decode cX9_count 1 = .ok (.tableswitch 87 0 5 #[39, 47, 55, 63, 71, 79], 39) := by decide +kernel
theorem dX9_count_40 : decode cX9_count 40 = .ok (.aload_n 0, 1) := by decide +kernel
theorem dX9_count_41 : decode cX9_count 41 = .ok (.getfield 61, 3) := by decide +kernel
theorem dX9_count_44 : decode cX9_count 44 = .ok (.getfield 179, 3) := by decide +kernel
theorem dX9_count_47 : decode cX9_count 47 = .ok (.ireturn, 1) := by decide +kernel
theorem dX9_count_48 : decode cX9_count 48 = .ok (.aload_n 0, 1) := by decide +kernel
theorem dX9_count_49 : decode cX9_count 49 = .ok (.getfield 61, 3) := by decide +kernel
theorem dX9_count_52 : decode cX9_count 52 = .ok (.getfield 230, 3) := by decide +kernel
theorem dX9_count_55 : decode cX9_count 55 = .ok (.ireturn, 1) := by decide +kernel
theorem dX9_count_56 : decode cX9_count 56 = .ok (.aload_n 0, 1) := by decide +kernel
theorem dX9_count_57 : decode cX9_count 57 = .ok (.getfield 61, 3) := by decide +kernel
theorem dX9_count_60 : decode cX9_count 60 = .ok (.invokevirtual 203, 3) := by decide +kernel
theorem dX9_count_63 : decode cX9_count 63 = .ok (.ireturn, 1) := by decide +kernel
theorem dX9_count_64 : decode cX9_count 64 = .ok (.aload_n 0, 1) := by decide +kernel
theorem dX9_count_65 : decode cX9_count 65 = .ok (.getfield 61, 3) := by decide +kernel
theorem dX9_count_68 : decode cX9_count 68 = .ok (.invokevirtual 233, 3) := by decide +kernel
theorem dX9_count_71 : decode cX9_count 71 = .ok (.ireturn, 1) := by decide +kernel
theorem dX9_count_72 : decode cX9_count 72 = .ok (.aload_n 0, 1) := by decide +kernel
theorem dX9_count_73 : decode cX9_count 73 = .ok (.getfield 40, 3) := by decide +kernel
theorem dX9_count_76 : decode cX9_count 76 = .ok (.getfield 196, 3) := by decide +kernel
theorem dX9_count_79 : decode cX9_count 79 = .ok (.ireturn, 1) := by decide +kernel
theorem dX9_count_80 : decode cX9_count 80 = .ok (.aload_n 0, 1) := by decide +kernel
theorem dX9_count_81 : decode cX9_count 81 = .ok (.getfield 12, 3) := by decide +kernel
theorem dX9_count_84 : decode cX9_count 84 = .ok (.getfield 76, 3) := by decide +kernel
theorem dX9_count_87 : decode cX9_count 87 = .ok (.ireturn, 1) := by decide +kernel
theorem dX9_count_88 : decode cX9_count 88 = .ok (.iconst (-1), 1) := by decide +kernel
theorem dX9_count_89 : decode cX9_count 89 = .ok (.ireturn, 1) := by decide +kernel
theorem dX9_trace_0 : decode cX9_trace 0 = .ok (.aload_n 0, 1) := by decide +kernel
theorem dX9_trace_1 : decode cX9_trace 1 = .ok (.getfield 47, 3) := by decide +kernel
theorem dX9_trace_4 : decode cX9_trace 4 = .ok (.getfield 236, 3) := by decide +kernel
theorem dX9_trace_7 : decode cX9_trace 7 = .ok (.lreturn, 1) := by decide +kernel
theorem dX9_isFlag_0 : decode cX9_isFlag 0 = .ok (.iload_n 0, 1) := by decide +kernel
theorem dX9_isFlag_1 : decode cX9_isFlag 1 = .ok (.ifCond .eq 8, 3) := by decide +kernel
theorem dX9_isFlag_4 : decode cX9_isFlag 4 = .ok (.iload_n 0, 1) := by decide +kernel
theorem dX9_isFlag_5 : decode cX9_isFlag 5 = .ok (.iconst 1, 1) := by decide +kernel
theorem dX9_isFlag_6 : decode cX9_isFlag 6 = .ok (.if_icmp .ne 7, 3) := by decide +kernel
theorem dX9_isFlag_9 : decode cX9_isFlag 9 = .ok (.iconst 1, 1) := by decide +kernel
theorem dX9_isFlag_10 : decode cX9_isFlag 10 = .ok (.goto 4, 3) := by decide +kernel
theorem dX9_isFlag_13 : decode cX9_isFlag 13 = .ok (.iconst 0, 1) := by decide +kernel
theorem dX9_isFlag_14 : decode cX9_isFlag 14 = .ok (.ireturn, 1) := by decide +kernel
set_option maxRecDepth 20000 in
theorem ggX9_pricesLost_X8_canBurn : GoodIn wsX9_pricesLost wsX8_canBurn := goodIn_r _ [7, 8, 9, 10, 11, 6, 12, 13, 14, 15, 16, 17, 18, 19, 20, 21, 22, 23, 84, 85, 86, 87, 88, 89, 90, 91, 92, 93] (by decide +kernel) (by decide +kernel)
set_option maxRecDepth 20000 in
theorem gX9_pricesLost_X8_canBurn : GoodIn wsX9_pricesLost (wsV RX9 186 RX8 yX8_canBurn wsX8_canBurn) := goodIn_app (goodIn_of _ (by decide +kernel)) ggX9_pricesLost_X8_canBurn
set_option maxRecDepth 20000 in
theorem ggX9_pricesLost_X8_roofedWith : GoodIn wsX9_pricesLost wsX8_roofedWith := goodIn_r _ [27, 13, 8, 84, 85, 86, 87, 88, 89, 90, 91, 92, 93] (by decide +kernel) (by decide +kernel)
set_option maxRecDepth 20000 in
theorem gX9_pricesLost_X8_roofedWith : GoodIn wsX9_pricesLost (wsV RX9 240 RX8 yX8_roofedWith wsX8_roofedWith) := goodIn_app (goodIn_of _ (by decide +kernel)) ggX9_pricesLost_X8_roofedWith
set_option maxRecDepth 20000 in
theorem ggX9_pricesLost_X0_spread : GoodIn wsX9_pricesLost wsX0_spread := goodIn_r _ [32, 33, 34, 35, 36, 37, 38, 6, 39, 40, 41, 42, 43, 13, 44, 45, 46, 47, 48, 49, 9, 10, 11, 12, 50, 51, 52, 53, 54, 55, 56, 57, 94, 95, 96, 84, 85, 86, 87, 88, 89, 90, 91, 92, 93] (by decide +kernel) (by decide +kernel)
set_option maxRecDepth 20000 in
theorem gX9_pricesLost_X0_spread : GoodIn wsX9_pricesLost (wsV RX9 243 RX0 yX0_spread wsX0_spread) := goodIn_app (goodIn_of _ (by decide +kernel)) ggX9_pricesLost_X0_spread
set_option maxRecDepth 20000 in
theorem ggX9_pricesLost_X0_howMany : GoodIn wsX9_pricesLost wsX0_howMany := goodIn_r _ [61, 34, 62, 63, 64, 65, 66, 67, 68, 94, 95, 96] (by decide +kernel) (by decide +kernel)
set_option maxRecDepth 20000 in
theorem gX9_pricesLost_X0_howMany : GoodIn wsX9_pricesLost (wsV RX9 173 RX0 yX0_howMany wsX0_howMany) := goodIn_app (goodIn_of _ (by decide +kernel)) ggX9_pricesLost_X0_howMany
set_option maxRecDepth 20000 in
theorem ggX9_pricesLost_X8_priceOf : GoodIn wsX9_pricesLost wsX8_priceOf := goodIn_r _ [72, 73, 19, 20, 21, 6, 22, 23, 84, 85, 86, 87, 88, 89, 90, 91, 92, 93] (by decide +kernel) (by decide +kernel)
set_option maxRecDepth 20000 in
theorem gX9_pricesLost_X8_priceOf : GoodIn wsX9_pricesLost (wsV RX9 133 RX8 yX8_priceOf wsX8_priceOf) := goodIn_app (goodIn_of _ (by decide +kernel)) ggX9_pricesLost_X8_priceOf
theorem dX9_pricesLost_0 : decode cX9_pricesLost 0 = .ok (.aload_n 0, 1) := by decide +kernel
theorem dX9_pricesLost_1 : decode cX9_pricesLost 1 = .ok (.getfield 61, 3) := by decide +kernel
theorem dX9_pricesLost_4 : decode cX9_pricesLost 4 = .ok (.iload_n 1, 1) := by decide +kernel
theorem dX9_pricesLost_5 : decode cX9_pricesLost 5 = .ok (.invokevirtual 186, 3) := by decide +kernel
theorem dX9_pricesLost_8 : decode cX9_pricesLost 8 = .ok (.ifCond .ne 5, 3) := by decide +kernel
theorem dX9_pricesLost_11 : decode cX9_pricesLost 11 = .ok (.iconst 0, 1) := by decide +kernel
theorem dX9_pricesLost_12 : decode cX9_pricesLost 12 = .ok (.ireturn, 1) := by decide +kernel
theorem dX9_pricesLost_13 : decode cX9_pricesLost 13 = .ok (.aload_n 0, 1) := by decide +kernel
theorem dX9_pricesLost_14 : decode cX9_pricesLost 14 = .ok (.getfield 61, 3) := by decide +kernel
theorem dX9_pricesLost_17 : decode cX9_pricesLost 17 = .ok (.getfield 112, 3) := by decide +kernel
theorem dX9_pricesLost_20 : decode cX9_pricesLost 20 = .ok (.iload_n 1, 1) := by decide +kernel
theorem dX9_pricesLost_21 : decode cX9_pricesLost 21 = .ok (.iaload, 1) := by decide +kernel
theorem dX9_pricesLost_22 : decode cX9_pricesLost 22 = .ok (.istore_n 3, 1) := by decide +kernel
theorem dX9_pricesLost_23 : decode cX9_pricesLost 23 = .ok (.aload_n 0, 1) := by decide +kernel
theorem dX9_pricesLost_24 : decode cX9_pricesLost 24 = .ok (.getfield 33, 3) := by decide +kernel
theorem dX9_pricesLost_27 : decode cX9_pricesLost 27 = .ok (.aload_n 0, 1) := by decide +kernel
theorem dX9_pricesLost_28 : decode cX9_pricesLost 28 = .ok (.getfield 61, 3) := by decide +kernel
theorem dX9_pricesLost_31 : decode cX9_pricesLost 31 = .ok (.aload_n 0, 1) := by decide +kernel
theorem dX9_pricesLost_32 : decode cX9_pricesLost 32 = .ok (.getfield 61, 3) := by decide +kernel
theorem dX9_pricesLost_35 : decode cX9_pricesLost 35 = .ok (.iload_n 3, 1) := by decide +kernel
theorem dX9_pricesLost_36 : decode cX9_pricesLost 36 = .ok (.invokevirtual 240, 3) := by decide +kernel
theorem dX9_pricesLost_39 : decode cX9_pricesLost 39 = .ok (.iload_n 2, 1) := by decide +kernel
theorem dX9_pricesLost_40 : decode cX9_pricesLost 40 = .ok (.iload_n 1, 1) := by decide +kernel
theorem dX9_pricesLost_41 : decode cX9_pricesLost 41 = .ok (.invokevirtual 243, 3) := by decide +kernel
theorem dX9_pricesLost_44 : decode cX9_pricesLost 44 = .ok (.aload_n 0, 1) := by decide +kernel
theorem dX9_pricesLost_45 : decode cX9_pricesLost 45 = .ok (.getfield 33, 3) := by decide +kernel
theorem dX9_pricesLost_48 : decode cX9_pricesLost 48 = .ok (.invokevirtual 173, 3) := by decide +kernel
theorem dX9_pricesLost_51 : decode cX9_pricesLost 51 = .ok (.aload_n 0, 1) := by decide +kernel
theorem dX9_pricesLost_52 : decode cX9_pricesLost 52 = .ok (.getfield 61, 3) := by decide +kernel
theorem dX9_pricesLost_55 : decode cX9_pricesLost 55 = .ok (.iload_n 3, 1) := by decide +kernel
theorem dX9_pricesLost_56 : decode cX9_pricesLost 56 = .ok (.invokevirtual 133, 3) := by decide +kernel
theorem dX9_pricesLost_59 : decode cX9_pricesLost 59 = .ok (.imul, 1) := by decide +kernel
theorem dX9_pricesLost_60 : decode cX9_pricesLost 60 = .ok (.ireturn, 1) := by decide +kernel
set_option maxRecDepth 20000 in
theorem ggX9_pricesLostIfAll_X8_burnOf : GoodIn wsX9_pricesLostIfAll wsX8_burnOf := goodIn_r _ [7, 8, 9, 10, 11, 6, 12, 13, 75, 76, 77, 78, 79, 80, 81, 82, 83, 84] (by decide +kernel) (by decide +kernel)
set_option maxRecDepth 20000 in
theorem gX9_pricesLostIfAll_X8_burnOf : GoodIn wsX9_pricesLostIfAll (wsV RX9 136 RX8 yX8_burnOf wsX8_burnOf) := goodIn_app (goodIn_of _ (by decide +kernel)) ggX9_pricesLostIfAll_X8_burnOf
set_option maxRecDepth 20000 in
theorem ggX9_pricesLostIfAll_X0_spread : GoodIn wsX9_pricesLostIfAll wsX0_spread := goodIn_r _ [18, 19, 20, 21, 22, 23, 24, 6, 25, 26, 27, 28, 29, 30, 31, 32, 33, 34, 35, 36, 37, 38, 39, 40, 41, 42, 43, 44, 45, 46, 47, 48, 85, 86, 87, 75, 76, 77, 78, 79, 80, 81, 82, 83, 84] (by decide +kernel) (by decide +kernel)
set_option maxRecDepth 20000 in
theorem gX9_pricesLostIfAll_X0_spread : GoodIn wsX9_pricesLostIfAll (wsV RX9 243 RX0 yX0_spread wsX0_spread) := goodIn_app (goodIn_of _ (by decide +kernel)) ggX9_pricesLostIfAll_X0_spread
set_option maxRecDepth 20000 in
theorem ggX9_pricesLostIfAll_X0_howMany : GoodIn wsX9_pricesLostIfAll wsX0_howMany := goodIn_r _ [52, 20, 53, 54, 55, 56, 57, 58, 59, 85, 86, 87] (by decide +kernel) (by decide +kernel)
set_option maxRecDepth 20000 in
theorem gX9_pricesLostIfAll_X0_howMany : GoodIn wsX9_pricesLostIfAll (wsV RX9 173 RX0 yX0_howMany wsX0_howMany) := goodIn_app (goodIn_of _ (by decide +kernel)) ggX9_pricesLostIfAll_X0_howMany
set_option maxRecDepth 20000 in
theorem ggX9_pricesLostIfAll_X8_priceOf : GoodIn wsX9_pricesLostIfAll wsX8_priceOf := goodIn_r _ [63, 64, 9, 10, 11, 6, 12, 13, 75, 76, 77, 78, 79, 80, 81, 82, 83, 84] (by decide +kernel) (by decide +kernel)
set_option maxRecDepth 20000 in
theorem gX9_pricesLostIfAll_X8_priceOf : GoodIn wsX9_pricesLostIfAll (wsV RX9 133 RX8 yX8_priceOf wsX8_priceOf) := goodIn_app (goodIn_of _ (by decide +kernel)) ggX9_pricesLostIfAll_X8_priceOf
theorem dX9_pricesLostIfAll_0 : decode cX9_pricesLostIfAll 0 = .ok (.aload_n 0, 1) := by decide +kernel
theorem dX9_pricesLostIfAll_1 : decode cX9_pricesLostIfAll 1 = .ok (.getfield 61, 3) := by decide +kernel
theorem dX9_pricesLostIfAll_4 : decode cX9_pricesLostIfAll 4 = .ok (.iload_n 1, 1) := by decide +kernel
theorem dX9_pricesLostIfAll_5 : decode cX9_pricesLostIfAll 5 = .ok (.invokevirtual 136, 3) := by decide +kernel
theorem dX9_pricesLostIfAll_8 : decode cX9_pricesLostIfAll 8 = .ok (.ifCond .ne 5, 3) := by decide +kernel
theorem dX9_pricesLostIfAll_11 : decode cX9_pricesLostIfAll 11 = .ok (.iconst 0, 1) := by decide +kernel
theorem dX9_pricesLostIfAll_12 : decode cX9_pricesLostIfAll 12 = .ok (.ireturn, 1) := by decide +kernel
theorem dX9_pricesLostIfAll_13 : decode cX9_pricesLostIfAll 13 = .ok (.aload_n 0, 1) := by decide +kernel
theorem dX9_pricesLostIfAll_14 : decode cX9_pricesLostIfAll 14 = .ok (.getfield 33, 3) := by decide +kernel
theorem dX9_pricesLostIfAll_17 : decode cX9_pricesLostIfAll 17 = .ok (.aload_n 0, 1) := by decide +kernel
theorem dX9_pricesLostIfAll_18 : decode cX9_pricesLostIfAll 18 = .ok (.getfield 61, 3) := by decide +kernel
theorem dX9_pricesLostIfAll_21 : decode cX9_pricesLostIfAll 21 = .ok (.iconst 1, 1) := by decide +kernel
theorem dX9_pricesLostIfAll_22 : decode cX9_pricesLostIfAll 22 = .ok (.aload_n 0, 1) := by decide +kernel
theorem dX9_pricesLostIfAll_23 : decode cX9_pricesLostIfAll 23 = .ok (.getfield 61, 3) := by decide +kernel
theorem dX9_pricesLostIfAll_26 : decode cX9_pricesLostIfAll 26 = .ok (.getfield 179, 3) := by decide +kernel
theorem dX9_pricesLostIfAll_29 : decode cX9_pricesLostIfAll 29 = .ok (.ishl, 1) := by decide +kernel
theorem dX9_pricesLostIfAll_30 : decode cX9_pricesLostIfAll 30 = .ok (.iconst 1, 1) := by decide +kernel
theorem dX9_pricesLostIfAll_31 : decode cX9_pricesLostIfAll 31 = .ok (.isub, 1) := by decide +kernel
theorem dX9_pricesLostIfAll_32 : decode cX9_pricesLostIfAll 32 = .ok (.iload_n 3, 1) := by decide +kernel
theorem dX9_pricesLostIfAll_33 : decode cX9_pricesLostIfAll 33 = .ok (.iload_n 2, 1) := by decide +kernel
theorem dX9_pricesLostIfAll_34 : decode cX9_pricesLostIfAll 34 = .ok (.invokevirtual 243, 3) := by decide +kernel
theorem dX9_pricesLostIfAll_37 : decode cX9_pricesLostIfAll 37 = .ok (.aload_n 0, 1) := by decide +kernel
theorem dX9_pricesLostIfAll_38 : decode cX9_pricesLostIfAll 38 = .ok (.getfield 33, 3) := by decide +kernel
theorem dX9_pricesLostIfAll_41 : decode cX9_pricesLostIfAll 41 = .ok (.invokevirtual 173, 3) := by decide +kernel
theorem dX9_pricesLostIfAll_44 : decode cX9_pricesLostIfAll 44 = .ok (.aload_n 0, 1) := by decide +kernel
theorem dX9_pricesLostIfAll_45 : decode cX9_pricesLostIfAll 45 = .ok (.getfield 61, 3) := by decide +kernel
theorem dX9_pricesLostIfAll_48 : decode cX9_pricesLostIfAll 48 = .ok (.iload_n 1, 1) := by decide +kernel
theorem dX9_pricesLostIfAll_49 : decode cX9_pricesLostIfAll 49 = .ok (.invokevirtual 133, 3) := by decide +kernel
theorem dX9_pricesLostIfAll_52 : decode cX9_pricesLostIfAll 52 = .ok (.imul, 1) := by decide +kernel
theorem dX9_pricesLostIfAll_53 : decode cX9_pricesLostIfAll 53 = .ok (.ireturn, 1) := by decide +kernel
theorem dX9_nextDraw_0 : decode cX9_nextDraw 0 = .ok (.aload_n 0, 1) := by decide +kernel
theorem dX9_nextDraw_1 : decode cX9_nextDraw 1 = .ok (.aload_n 0, 1) := by decide +kernel
theorem dX9_nextDraw_2 : decode cX9_nextDraw 2 = .ok (.getfield 68, 3) := by decide +kernel
theorem dX9_nextDraw_5 : decode cX9_nextDraw 5 = .ok (.ldc 247, 2) := by decide +kernel
theorem dX9_nextDraw_7 : decode cX9_nextDraw 7 = .ok (.imul, 1) := by decide +kernel
theorem dX9_nextDraw_8 : decode cX9_nextDraw 8 = .ok (.sipush 12345, 3) := by decide +kernel
theorem dX9_nextDraw_11 : decode cX9_nextDraw 11 = .ok (.iadd, 1) := by decide +kernel
theorem dX9_nextDraw_12 : decode cX9_nextDraw 12 = .ok (.putfield 68, 3) := by decide +kernel
theorem dX9_nextDraw_15 : decode cX9_nextDraw 15 = .ok (.aload_n 0, 1) := by decide +kernel
theorem dX9_nextDraw_16 : decode cX9_nextDraw 16 = .ok (.getfield 68, 3) := by decide +kernel
theorem dX9_nextDraw_19 : decode cX9_nextDraw 19 = .ok (.bipush 16, 2) := by decide +kernel
theorem dX9_nextDraw_21 : decode cX9_nextDraw 21 = .ok (.iushr, 1) := by decide +kernel
theorem dX9_nextDraw_22 : decode cX9_nextDraw 22 = .ok (.ireturn, 1) := by decide +kernel
theorem dX9_greatestCommon_0 : decode cX9_greatestCommon 0 = .ok (.iload_n 0, 1) := by decide +kernel
theorem dX9_greatestCommon_1 : decode cX9_greatestCommon 1 = .ok (.istore_n 2, 1) := by decide +kernel
theorem dX9_greatestCommon_2 : decode cX9_greatestCommon 2 = .ok (.iload_n 1, 1) := by decide +kernel
theorem dX9_greatestCommon_3 : decode cX9_greatestCommon 3 = .ok (.istore_n 3, 1) := by decide +kernel
theorem dX9_greatestCommon_4 : decode cX9_greatestCommon 4 = .ok (.iconst 0, 1) := by decide +kernel
theorem dX9_greatestCommon_5 : decode cX9_greatestCommon 5 = .ok (.istore 4, 2) := by decide +kernel
theorem dX9_greatestCommon_7 : decode cX9_greatestCommon 7 = .ok (.iload 4, 2) := by decide +kernel
theorem dX9_greatestCommon_9 : decode cX9_greatestCommon 9 = .ok (.bipush 64, 2) := by decide +kernel
theorem dX9_greatestCommon_11 : decode cX9_greatestCommon 11 = .ok (.if_icmp .ge 23, 3) := by decide +kernel
theorem dX9_greatestCommon_14 : decode cX9_greatestCommon 14 = .ok (.iload_n 3, 1) := by decide +kernel
theorem dX9_greatestCommon_15 : decode cX9_greatestCommon 15 = .ok (.ifCond .eq 19, 3) := by decide +kernel
theorem dX9_greatestCommon_18 : decode cX9_greatestCommon 18 = .ok (.iload_n 2, 1) := by decide +kernel
theorem dX9_greatestCommon_19 : decode cX9_greatestCommon 19 = .ok (.iload_n 3, 1) := by decide +kernel
theorem dX9_greatestCommon_20 : decode cX9_greatestCommon 20 = .ok (.irem, 1) := by decide +kernel
theorem dX9_greatestCommon_21 : decode cX9_greatestCommon 21 = .ok (.istore 5, 2) := by decide +kernel
theorem dX9_greatestCommon_23 : decode cX9_greatestCommon 23 = .ok (.iload_n 3, 1) := by decide +kernel
theorem dX9_greatestCommon_24 : decode cX9_greatestCommon 24 = .ok (.istore_n 2, 1) := by decide +kernel
theorem dX9_greatestCommon_25 : decode cX9_greatestCommon 25 = .ok (.iload 5, 2) := by decide +kernel
theorem dX9_greatestCommon_27 : decode cX9_greatestCommon 27 = .ok (.istore_n 3, 1) := by decide +kernel
theorem dX9_greatestCommon_28 : decode cX9_greatestCommon 28 = .ok (.iinc 4 1, 3) := by decide +kernel
theorem dX9_greatestCommon_31 : decode cX9_greatestCommon 31 = .ok (.goto (-24), 3) := by decide +kernel
theorem dX9_greatestCommon_34 : decode cX9_greatestCommon 34 = .ok (.iload_n 2, 1) := by decide +kernel
theorem dX9_greatestCommon_35 : decode cX9_greatestCommon 35 = .ok (.ireturn, 1) := by decide +kernel
