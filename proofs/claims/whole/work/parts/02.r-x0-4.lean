theorem dX0_init_0 : decode cX0_init 0 = .ok (.aload_n 0, 1) := by decide +kernel
theorem dX0_init_1 : decode cX0_init 1 = .ok (.invokespecial 3, 3) := by decide +kernel
theorem dX0_init_4 : decode cX0_init 4 = .ok (.aload_n 0, 1) := by decide +kernel
theorem dX0_init_5 : decode cX0_init 5 = .ok (.bipush 8, 2) := by decide +kernel
theorem dX0_init_7 : decode cX0_init 7 = .ok (.newarray .int, 2) := by decide +kernel
theorem dX0_init_9 : decode cX0_init 9 = .ok (.putfield 9, 3) := by decide +kernel
theorem dX0_init_12 : decode cX0_init 12 = .ok (.return_, 1) := by decide +kernel
set_option maxRecDepth 20000 in
theorem ggX0_burnFrom_X8_canBurn : GoodIn wsX0_burnFrom wsX8_canBurn := goodIn_r _ [5, 6, 7, 8, 9, 4, 10, 11, 12, 13, 14, 15, 16, 17, 18, 19, 20, 21, 56, 57, 58, 59, 60, 61, 62, 63, 64, 65] (by decide +kernel) (by decide +kernel)
set_option maxRecDepth 20000 in
theorem gX0_burnFrom_X8_canBurn : GoodIn wsX0_burnFrom (wsV RX0 15 RX8 yX8_canBurn wsX8_canBurn) := goodIn_app (goodIn_of _ (by decide +kernel)) ggX0_burnFrom_X8_canBurn
set_option maxRecDepth 20000 in
theorem ggX0_burnFrom_X8_roofedWith : GoodIn wsX0_burnFrom wsX8_roofedWith := goodIn_r _ [25, 11, 6, 56, 57, 58, 59, 60, 61, 62, 63, 64, 65] (by decide +kernel) (by decide +kernel)
set_option maxRecDepth 20000 in
theorem gX0_burnFrom_X8_roofedWith : GoodIn wsX0_burnFrom (wsV RX0 24 RX8 yX8_roofedWith wsX8_roofedWith) := goodIn_app (goodIn_of _ (by decide +kernel)) ggX0_burnFrom_X8_roofedWith
set_option maxRecDepth 20000 in
theorem ggX0_burnFrom_X0_spread : GoodIn wsX0_burnFrom wsX0_spread := goodIn_r _ [30, 31, 32, 33, 34, 35, 36, 4, 37, 38, 39, 40, 41, 11, 42, 43, 44, 45, 46, 47, 7, 8, 9, 10, 48, 49, 50, 51, 52, 53, 54, 55, 66, 67, 68, 56, 57, 58, 59, 60, 61, 62, 63, 64, 65] (by decide +kernel) (by decide +kernel)
set_option maxRecDepth 20000 in
theorem gX0_burnFrom_X0_spread : GoodIn wsX0_burnFrom (wsV RX0 32 RX0 yX0_spread wsX0_spread) := goodIn_app (goodIn_of _ (by decide +kernel)) ggX0_burnFrom_X0_spread
theorem dX0_burnFrom_0 : decode cX0_burnFrom 0 = .ok (.aload_n 1, 1) := by decide +kernel
theorem dX0_burnFrom_1 : decode cX0_burnFrom 1 = .ok (.iload_n 2, 1) := by decide +kernel
theorem dX0_burnFrom_2 : decode cX0_burnFrom 2 = .ok (.invokevirtual 15, 3) := by decide +kernel
theorem dX0_burnFrom_5 : decode cX0_burnFrom 5 = .ok (.ifCond .ne 5, 3) := by decide +kernel
theorem dX0_burnFrom_8 : decode cX0_burnFrom 8 = .ok (.iconst 0, 1) := by decide +kernel
theorem dX0_burnFrom_9 : decode cX0_burnFrom 9 = .ok (.ireturn, 1) := by decide +kernel
theorem dX0_burnFrom_10 : decode cX0_burnFrom 10 = .ok (.aload_n 0, 1) := by decide +kernel
theorem dX0_burnFrom_11 : decode cX0_burnFrom 11 = .ok (.aload_n 1, 1) := by decide +kernel
theorem dX0_burnFrom_12 : decode cX0_burnFrom 12 = .ok (.aload_n 1, 1) := by decide +kernel
theorem dX0_burnFrom_13 : decode cX0_burnFrom 13 = .ok (.aload_n 1, 1) := by decide +kernel
theorem dX0_burnFrom_14 : decode cX0_burnFrom 14 = .ok (.getfield 21, 3) := by decide +kernel
theorem dX0_burnFrom_17 : decode cX0_burnFrom 17 = .ok (.iload_n 2, 1) := by decide +kernel
theorem dX0_burnFrom_18 : decode cX0_burnFrom 18 = .ok (.iaload, 1) := by decide +kernel
theorem dX0_burnFrom_19 : decode cX0_burnFrom 19 = .ok (.invokevirtual 24, 3) := by decide +kernel
theorem dX0_burnFrom_22 : decode cX0_burnFrom 22 = .ok (.aload_n 1, 1) := by decide +kernel
theorem dX0_burnFrom_23 : decode cX0_burnFrom 23 = .ok (.getfield 28, 3) := by decide +kernel
theorem dX0_burnFrom_26 : decode cX0_burnFrom 26 = .ok (.iload_n 2, 1) := by decide +kernel
theorem dX0_burnFrom_27 : decode cX0_burnFrom 27 = .ok (.invokevirtual 32, 3) := by decide +kernel
theorem dX0_burnFrom_30 : decode cX0_burnFrom 30 = .ok (.iconst 1, 1) := by decide +kernel
theorem dX0_burnFrom_31 : decode cX0_burnFrom 31 = .ok (.ireturn, 1) := by decide +kernel
set_option maxRecDepth 20000 in
theorem ggX0_spread_X8_touched : GoodIn wsX0_spread wsX8_touched := goodIn_r _ [8, 9, 10, 11, 7, 12, 13, 14, 15, 16, 17, 18, 19, 20, 21, 22, 23, 35, 36, 37, 38, 39, 40, 41, 42, 43, 44] (by decide +kernel) (by decide +kernel)
set_option maxRecDepth 20000 in
theorem gX0_spread_X8_touched : GoodIn wsX0_spread (wsV RX0 42 RX8 yX8_touched wsX8_touched) := goodIn_app (goodIn_of _ (by decide +kernel)) ggX0_spread_X8_touched
set_option maxRecDepth 20000 in
theorem ggX0_spread_X8_sparked : GoodIn wsX0_spread wsX8_sparked := goodIn_r _ [27, 14, 19, 20, 21, 22, 7, 23, 13, 28, 29, 30, 31, 35, 36, 37, 38, 39, 40, 41, 42, 43, 44] (by decide +kernel) (by decide +kernel)
set_option maxRecDepth 20000 in
theorem gX0_spread_X8_sparked : GoodIn wsX0_spread (wsV RX0 45 RX8 yX8_sparked wsX8_sparked) := goodIn_app (goodIn_of _ (by decide +kernel)) ggX0_spread_X8_sparked
theorem dX0_spread_0 : decode cX0_spread 0 = .ok (.iconst 0, 1) := by decide +kernel
theorem dX0_spread_1 : decode cX0_spread 1 = .ok (.istore 5, 2) := by decide +kernel
theorem dX0_spread_3 : decode cX0_spread 3 = .ok (.iload 5, 2) := by decide +kernel
theorem dX0_spread_5 : decode cX0_spread 5 = .ok (.aload_n 0, 1) := by decide +kernel
theorem dX0_spread_6 : decode cX0_spread 6 = .ok (.getfield 9, 3) := by decide +kernel
theorem dX0_spread_9 : decode cX0_spread 9 = .ok (.arraylength, 1) := by decide +kernel
theorem dX0_spread_10 : decode cX0_spread 10 = .ok (.if_icmp .ge 18, 3) := by decide +kernel
theorem dX0_spread_13 : decode cX0_spread 13 = .ok (.aload_n 0, 1) := by decide +kernel
theorem dX0_spread_14 : decode cX0_spread 14 = .ok (.getfield 9, 3) := by decide +kernel
theorem dX0_spread_17 : decode cX0_spread 17 = .ok (.iload 5, 2) := by decide +kernel
theorem dX0_spread_19 : decode cX0_spread 19 = .ok (.bipush (-9), 2) := by decide +kernel
theorem dX0_spread_21 : decode cX0_spread 21 = .ok (.iastore, 1) := by decide +kernel
theorem dX0_spread_22 : decode cX0_spread 22 = .ok (.iinc 5 1, 3) := by decide +kernel
theorem dX0_spread_25 : decode cX0_spread 25 = .ok (.goto (-22), 3) := by decide +kernel
theorem dX0_spread_28 : decode cX0_spread 28 = .ok (.aload_n 0, 1) := by decide +kernel
theorem dX0_spread_29 : decode cX0_spread 29 = .ok (.iconst 0, 1) := by decide +kernel
theorem dX0_spread_30 : decode cX0_spread 30 = .ok (.putfield 36, 3) := by decide +kernel
theorem dX0_spread_33 : decode cX0_spread 33 = .ok (.iconst 1, 1) := by decide +kernel
theorem dX0_spread_34 : decode cX0_spread 34 = .ok (.iload 4, 2) := by decide +kernel
theorem dX0_spread_36 : decode cX0_spread 36 = .ok (.ishl, 1) := by decide +kernel
theorem dX0_spread_37 : decode cX0_spread 37 = .ok (.istore 5, 2) := by decide +kernel
theorem dX0_spread_39 : decode cX0_spread 39 = .ok (.iconst 0, 1) := by decide +kernel
theorem dX0_spread_40 : decode cX0_spread 40 = .ok (.istore 6, 2) := by decide +kernel
theorem dX0_spread_42 : decode cX0_spread 42 = .ok (.iload 6, 2) := by decide +kernel
theorem dX0_spread_44 : decode cX0_spread 44 = .ok (.bipush 8, 2) := by decide +kernel
theorem dX0_spread_46 : decode cX0_spread 46 = .ok (.if_icmp .ge 105, 3) := by decide +kernel
theorem dX0_spread_49 : decode cX0_spread 49 = .ok (.iload 5, 2) := by decide +kernel
theorem dX0_spread_51 : decode cX0_spread 51 = .ok (.ifCond .eq 100, 3) := by decide +kernel
theorem dX0_spread_54 : decode cX0_spread 54 = .ok (.aload_n 0, 1) := by decide +kernel
theorem dX0_spread_55 : decode cX0_spread 55 = .ok (.dup, 1) := by decide +kernel
theorem dX0_spread_56 : decode cX0_spread 56 = .ok (.getfield 36, 3) := by decide +kernel
theorem dX0_spread_59 : decode cX0_spread 59 = .ok (.iload 5, 2) := by decide +kernel
theorem dX0_spread_61 : decode cX0_spread 61 = .ok (.ior, 1) := by decide +kernel
theorem dX0_spread_62 : decode cX0_spread 62 = .ok (.putfield 36, 3) := by decide +kernel
theorem dX0_spread_65 : decode cX0_spread 65 = .ok (.aload_n 0, 1) := by decide +kernel
theorem dX0_spread_66 : decode cX0_spread 66 = .ok (.iload 6, 2) := by decide +kernel
theorem dX0_spread_68 : decode cX0_spread 68 = .ok (.putfield 39, 3) := by decide +kernel
theorem dX0_spread_71 : decode cX0_spread 71 = .ok (.iconst 0, 1) := by decide +kernel
theorem dX0_spread_72 : decode cX0_spread 72 = .ok (.istore 7, 2) := by decide +kernel
theorem dX0_spread_74 : decode cX0_spread 74 = .ok (.iconst 0, 1) := by decide +kernel
theorem dX0_spread_75 : decode cX0_spread 75 = .ok (.istore 8, 2) := by decide +kernel
theorem dX0_spread_77 : decode cX0_spread 77 = .ok (.iload 8, 2) := by decide +kernel
theorem dX0_spread_79 : decode cX0_spread 79 = .ok (.aload_n 0, 1) := by decide +kernel
theorem dX0_spread_80 : decode cX0_spread 80 = .ok (.getfield 9, 3) := by decide +kernel
theorem dX0_spread_83 : decode cX0_spread 83 = .ok (.arraylength, 1) := by decide +kernel
theorem dX0_spread_84 : decode cX0_spread 84 = .ok (.if_icmp .ge 48, 3) := by decide +kernel
theorem dX0_spread_87 : decode cX0_spread 87 = .ok (.iload 5, 2) := by decide +kernel
theorem dX0_spread_89 : decode cX0_spread 89 = .ok (.iload 8, 2) := by decide +kernel
theorem dX0_spread_91 : decode cX0_spread 91 = .ok (.ishr, 1) := by decide +kernel
theorem dX0_spread_92 : decode cX0_spread 92 = .ok (.iconst 1, 1) := by decide +kernel
theorem dX0_spread_93 : decode cX0_spread 93 = .ok (.iand, 1) := by decide +kernel
theorem dX0_spread_94 : decode cX0_spread 94 = .ok (.iconst 1, 1) := by decide +kernel
theorem dX0_spread_95 : decode cX0_spread 95 = .ok (.if_icmp .ne 31, 3) := by decide +kernel
theorem dX0_spread_98 : decode cX0_spread 98 = .ok (.aload_n 0, 1) := by decide +kernel
theorem dX0_spread_99 : decode cX0_spread 99 = .ok (.getfield 9, 3) := by decide +kernel
theorem dX0_spread_102 : decode cX0_spread 102 = .ok (.iload 8, 2) := by decide +kernel
theorem dX0_spread_104 : decode cX0_spread 104 = .ok (.iload 6, 2) := by decide +kernel
theorem dX0_spread_106 : decode cX0_spread 106 = .ok (.iastore, 1) := by decide +kernel
theorem dX0_spread_107 : decode cX0_spread 107 = .ok (.iload 7, 2) := by decide +kernel
theorem dX0_spread_109 : decode cX0_spread 109 = .ok (.aload_n 1, 1) := by decide +kernel
theorem dX0_spread_110 : decode cX0_spread 110 = .ok (.iload 8, 2) := by decide +kernel
theorem dX0_spread_112 : decode cX0_spread 112 = .ok (.invokevirtual 42, 3) := by decide +kernel
theorem dX0_spread_115 : decode cX0_spread 115 = .ok (.aload_n 1, 1) := by decide +kernel
theorem dX0_spread_116 : decode cX0_spread 116 = .ok (.iload 8, 2) := by decide +kernel
theorem dX0_spread_118 : decode cX0_spread 118 = .ok (.iload_n 3, 1) := by decide +kernel
theorem dX0_spread_119 : decode cX0_spread 119 = .ok (.invokevirtual 45, 3) := by decide +kernel
theorem dX0_spread_122 : decode cX0_spread 122 = .ok (.ior, 1) := by decide +kernel
theorem dX0_spread_123 : decode cX0_spread 123 = .ok (.ior, 1) := by decide +kernel
theorem dX0_spread_124 : decode cX0_spread 124 = .ok (.istore 7, 2) := by decide +kernel
theorem dX0_spread_126 : decode cX0_spread 126 = .ok (.iinc 8 1, 3) := by decide +kernel
theorem dX0_spread_129 : decode cX0_spread 129 = .ok (.goto (-52), 3) := by decide +kernel
theorem dX0_spread_132 : decode cX0_spread 132 = .ok (.iload 7, 2) := by decide +kernel
theorem dX0_spread_134 : decode cX0_spread 134 = .ok (.iload_n 2, 1) := by decide +kernel
theorem dX0_spread_135 : decode cX0_spread 135 = .ok (.iand, 1) := by decide +kernel
theorem dX0_spread_136 : decode cX0_spread 136 = .ok (.aload_n 0, 1) := by decide +kernel
theorem dX0_spread_137 : decode cX0_spread 137 = .ok (.getfield 36, 3) := by decide +kernel
theorem dX0_spread_140 : decode cX0_spread 140 = .ok (.iconst (-1), 1) := by decide +kernel
theorem dX0_spread_141 : decode cX0_spread 141 = .ok (.ixor, 1) := by decide +kernel
theorem dX0_spread_142 : decode cX0_spread 142 = .ok (.iand, 1) := by decide +kernel
theorem dX0_spread_143 : decode cX0_spread 143 = .ok (.istore 5, 2) := by decide +kernel
theorem dX0_spread_145 : decode cX0_spread 145 = .ok (.iinc 6 1, 3) := by decide +kernel
theorem dX0_spread_148 : decode cX0_spread 148 = .ok (.goto (-106), 3) := by decide +kernel
theorem dX0_spread_151 : decode cX0_spread 151 = .ok (.return_, 1) := by decide +kernel
set_option maxRecDepth 20000 in
theorem ggX0_howMany_J6_bitCount_0f7a4 : GoodIn wsX0_howMany wsJ6_bitCount_0f7a4 := goodIn_r _ [5, 6, 7, 8] (by decide +kernel) (by decide +kernel)
set_option maxRecDepth 20000 in
theorem gX0_howMany_J6_bitCount_0f7a4 : GoodIn wsX0_howMany (va_wsS RX0 49 yJ6_bitCount_0f7a4 wsJ6_bitCount_0f7a4) := goodIn_app (goodIn_of _ (by decide +kernel)) ggX0_howMany_J6_bitCount_0f7a4
theorem dX0_howMany_0 : decode cX0_howMany 0 = .ok (.aload_n 0, 1) := by decide +kernel
theorem dX0_howMany_1 : decode cX0_howMany 1 = .ok (.getfield 36, 3) := by decide +kernel
theorem dX0_howMany_4 : decode cX0_howMany 4 = .ok (.invokestatic 49, 3) := by decide +kernel
theorem dX0_howMany_7 : decode cX0_howMany 7 = .ok (.ireturn, 1) := by decide +kernel
set_option maxRecDepth 20000 in
theorem ggX1_init_X5_init : GoodIn wsX1_init wsX5_init := goodIn_r _ [11, 12, 2, 3, 4, 13, 14, 20, 21, 22] (by decide +kernel) (by decide +kernel)
set_option maxRecDepth 20000 in
theorem gX1_init_X5_init_n17 : GoodIn wsX1_init (wsX5_init) := ggX1_init_X5_init
theorem dX1_init_0 : decode cX1_init 0 = .ok (.aload_n 0, 1) := by decide +kernel
theorem dX1_init_1 : decode cX1_init 1 = .ok (.invokespecial 3, 3) := by decide +kernel
theorem dX1_init_4 : decode cX1_init 4 = .ok (.aload_n 0, 1) := by decide +kernel
theorem dX1_init_5 : decode cX1_init 5 = .ok (.bipush 8, 2) := by decide +kernel
theorem dX1_init_7 : decode cX1_init 7 = .ok (.newarray .int, 2) := by decide +kernel
theorem dX1_init_9 : decode cX1_init 9 = .ok (.putfield 9, 3) := by decide +kernel
theorem dX1_init_12 : decode cX1_init 12 = .ok (.aload_n 0, 1) := by decide +kernel
theorem dX1_init_13 : decode cX1_init 13 = .ok (.new 15, 3) := by decide +kernel
theorem dX1_init_16 : decode cX1_init 16 = .ok (.dup, 1) := by decide +kernel
theorem dX1_init_17 : decode cX1_init 17 = .ok (.invokespecial 17, 3) := by decide +kernel
theorem dX1_init_20 : decode cX1_init 20 = .ok (.putfield 18, 3) := by decide +kernel
theorem dX1_init_23 : decode cX1_init 23 = .ok (.return_, 1) := by decide +kernel
set_option maxRecDepth 20000 in
theorem ggX1_take_X5_copyOf : GoodIn wsX1_take wsX5_copyOf := goodIn_r _ [14, 15, 16, 17, 3, 4, 5, 18, 34, 35, 36] (by decide +kernel) (by decide +kernel)
set_option maxRecDepth 20000 in
theorem gX1_take_X5_copyOf : GoodIn wsX1_take (wsV RX1 39 RX5 yX5_copyOf wsX5_copyOf) := goodIn_app (goodIn_of _ (by decide +kernel)) ggX1_take_X5_copyOf
theorem dX1_take_0 : decode cX1_take 0 = .ok (.aload_n 1, 1) := by decide +kernel
theorem dX1_take_1 : decode cX1_take 1 = .ok (.getfield 22, 3) := by decide +kernel
theorem dX1_take_4 : decode cX1_take 4 = .ok (.iconst 0, 1) := by decide +kernel
theorem dX1_take_5 : decode cX1_take 5 = .ok (.aload_n 0, 1) := by decide +kernel
theorem dX1_take_6 : decode cX1_take 6 = .ok (.getfield 9, 3) := by decide +kernel
theorem dX1_take_9 : decode cX1_take 9 = .ok (.iconst 0, 1) := by decide +kernel
theorem dX1_take_10 : decode cX1_take 10 = .ok (.bipush 8, 2) := by decide +kernel
theorem dX1_take_12 : decode cX1_take 12 = .ok (.invokestatic 25, 3) := by decide +kernel
theorem dX1_take_15 : decode cX1_take 15 = .ok (.aload_n 0, 1) := by decide +kernel
theorem dX1_take_16 : decode cX1_take 16 = .ok (.aload_n 1, 1) := by decide +kernel
theorem dX1_take_17 : decode cX1_take 17 = .ok (.getfield 31, 3) := by decide +kernel
theorem dX1_take_20 : decode cX1_take 20 = .ok (.putfield 35, 3) := by decide +kernel
theorem dX1_take_23 : decode cX1_take 23 = .ok (.aload_n 0, 1) := by decide +kernel
theorem dX1_take_24 : decode cX1_take 24 = .ok (.iload_n 2, 1) := by decide +kernel
theorem dX1_take_25 : decode cX1_take 25 = .ok (.putfield 36, 3) := by decide +kernel
theorem dX1_take_28 : decode cX1_take 28 = .ok (.aload_n 0, 1) := by decide +kernel
theorem dX1_take_29 : decode cX1_take 29 = .ok (.getfield 18, 3) := by decide +kernel
theorem dX1_take_32 : decode cX1_take 32 = .ok (.aload_n 3, 1) := by decide +kernel
theorem dX1_take_33 : decode cX1_take 33 = .ok (.invokevirtual 39, 3) := by decide +kernel
theorem dX1_take_36 : decode cX1_take 36 = .ok (.aload_n 0, 1) := by decide +kernel
theorem dX1_take_37 : decode cX1_take 37 = .ok (.iconst 1, 1) := by decide +kernel
theorem dX1_take_38 : decode cX1_take 38 = .ok (.putfield 43, 3) := by decide +kernel
theorem dX1_take_41 : decode cX1_take 41 = .ok (.return_, 1) := by decide +kernel
set_option maxRecDepth 20000 in
theorem ggX1_giveBack_X5_copyOf : GoodIn wsX1_giveBack wsX5_copyOf := goodIn_r _ [12, 13, 14, 15, 3, 4, 5, 16, 32, 33, 34] (by decide +kernel) (by decide +kernel)
set_option maxRecDepth 20000 in
theorem gX1_giveBack_X5_copyOf : GoodIn wsX1_giveBack (wsV RX1 39 RX5 yX5_copyOf wsX5_copyOf) := goodIn_app (goodIn_of _ (by decide +kernel)) ggX1_giveBack_X5_copyOf
theorem dX1_giveBack_0 : decode cX1_giveBack 0 = .ok (.aload_n 0, 1) := by decide +kernel
theorem dX1_giveBack_1 : decode cX1_giveBack 1 = .ok (.getfield 9, 3) := by decide +kernel
theorem dX1_giveBack_4 : decode cX1_giveBack 4 = .ok (.iconst 0, 1) := by decide +kernel
theorem dX1_giveBack_5 : decode cX1_giveBack 5 = .ok (.aload_n 1, 1) := by decide +kernel
theorem dX1_giveBack_6 : decode cX1_giveBack 6 = .ok (.getfield 22, 3) := by decide +kernel
theorem dX1_giveBack_9 : decode cX1_giveBack 9 = .ok (.iconst 0, 1) := by decide +kernel
theorem dX1_giveBack_10 : decode cX1_giveBack 10 = .ok (.bipush 8, 2) := by decide +kernel
theorem dX1_giveBack_12 : decode cX1_giveBack 12 = .ok (.invokestatic 25, 3) := by decide +kernel
theorem dX1_giveBack_15 : decode cX1_giveBack 15 = .ok (.aload_n 1, 1) := by decide +kernel
theorem dX1_giveBack_16 : decode cX1_giveBack 16 = .ok (.aload_n 0, 1) := by decide +kernel
theorem dX1_giveBack_17 : decode cX1_giveBack 17 = .ok (.getfield 35, 3) := by decide +kernel
theorem dX1_giveBack_20 : decode cX1_giveBack 20 = .ok (.putfield 31, 3) := by decide +kernel
theorem dX1_giveBack_23 : decode cX1_giveBack 23 = .ok (.aload_n 2, 1) := by decide +kernel
theorem dX1_giveBack_24 : decode cX1_giveBack 24 = .ok (.aload_n 0, 1) := by decide +kernel
theorem dX1_giveBack_25 : decode cX1_giveBack 25 = .ok (.getfield 18, 3) := by decide +kernel
theorem dX1_giveBack_28 : decode cX1_giveBack 28 = .ok (.invokevirtual 39, 3) := by decide +kernel
theorem dX1_giveBack_31 : decode cX1_giveBack 31 = .ok (.return_, 1) := by decide +kernel
theorem dX2_init_0 : decode cX2_init 0 = .ok (.aload_n 0, 1) := by decide +kernel
theorem dX2_init_1 : decode cX2_init 1 = .ok (.invokespecial 1, 3) := by decide +kernel
theorem dX2_init_4 : decode cX2_init 4 = .ok (.return_, 1) := by decide +kernel
set_option maxRecDepth 20000 in
theorem ggX2_of_X2_straw : GoodIn wsX2_of wsX2_straw := goodIn_r _ [5, 6, 7, 8, 9, 10, 11, 12, 13, 14, 15, 16, 17, 18, 19, 20, 21, 22, 23, 24, 25, 26, 4, 27, 28, 29, 30, 31, 32, 75, 76, 77, 78, 79, 80, 81, 82, 83, 84, 85] (by decide +kernel) (by decide +kernel)
set_option maxRecDepth 20000 in
theorem gX2_of_X2_straw : GoodIn wsX2_of (wsV RX2 7 RX2 yX2_straw wsX2_straw) := goodIn_app (goodIn_of _ (by decide +kernel)) ggX2_of_X2_straw
set_option maxRecDepth 20000 in
theorem ggX2_of_X2_slate : GoodIn wsX2_of wsX2_slate := goodIn_r _ [36, 6, 37, 24, 25, 26, 4, 27, 8, 9, 10, 11, 12, 13, 28, 29, 30, 31, 32, 19, 20, 21, 22, 23, 38, 39, 40, 41, 42, 43, 44, 45, 46, 47, 48, 49, 50, 51, 52, 53, 54, 55, 56, 57, 58, 59, 75, 76, 77, 78, 79, 80, 81, 82, 83, 84, 85] (by decide +kernel) (by decide +kernel)
set_option maxRecDepth 20000 in
theorem gX2_of_X2_slate : GoodIn wsX2_of (wsV RX2 13 RX2 yX2_slate wsX2_slate) := goodIn_app (goodIn_of _ (by decide +kernel)) ggX2_of_X2_slate
set_option maxRecDepth 20000 in
theorem ggX2_of_X2_mossed : GoodIn wsX2_of wsX2_mossed := goodIn_r _ [63, 6, 64, 1, 2, 3, 4, 5, 7, 8, 9, 10, 11, 12, 13, 14, 15, 16, 17, 18, 19, 20, 21, 22, 23, 24, 25, 26, 27, 28, 29, 30, 31, 32, 75, 76, 77, 78, 79, 80, 81, 82, 83, 84, 85] (by decide +kernel) (by decide +kernel)
set_option maxRecDepth 20000 in
theorem gX2_of_X2_mossed : GoodIn wsX2_of (wsV RX2 16 RX2 yX2_mossed wsX2_mossed) := goodIn_app (goodIn_of _ (by decide +kernel)) ggX2_of_X2_mossed
set_option maxRecDepth 20000 in
theorem ggX2_of_X2_tarred : GoodIn wsX2_of wsX2_tarred := goodIn_r _ [68, 6, 69, 33, 34, 35, 4, 36, 37, 24, 25, 26, 27, 8, 9, 10, 11, 12, 13, 28, 29, 30, 31, 32, 19, 20, 21, 22, 23, 38, 39, 40, 41, 42, 43, 44, 45, 46, 47, 48, 49, 50, 51, 52, 53, 54, 55, 56, 57, 58, 59, 75, 76, 77, 78, 79, 80, 81, 82, 83, 84, 85] (by decide +kernel) (by decide +kernel)
set_option maxRecDepth 20000 in
theorem gX2_of_X2_tarred : GoodIn wsX2_of (wsV RX2 19 RX2 yX2_tarred wsX2_tarred) := goodIn_app (goodIn_of _ (by decide +kernel)) ggX2_of_X2_tarred
set_option maxRecDepth 20000 in
theorem ggX2_of_X2_lead : GoodIn wsX2_of wsX2_lead := goodIn_r _ [73, 6, 74, 24, 25, 26, 4, 27, 8, 9, 10, 11, 12, 13, 28, 29, 30, 31, 32, 19, 20, 21, 22, 23, 75, 76, 77, 78, 79, 80, 81, 82, 83, 84, 85] (by decide +kernel) (by decide +kernel)
set_option maxRecDepth 20000 in
theorem gX2_of_X2_lead : GoodIn wsX2_of (wsV RX2 22 RX2 yX2_lead wsX2_lead) := goodIn_app (goodIn_of _ (by decide +kernel)) ggX2_of_X2_lead
set_option maxRecDepth 20000 in
theorem ggX2_of_X2_plain : GoodIn wsX2_of wsX2_plain := goodIn_r _ [27, 6, 8, 9, 10, 11, 12, 13, 28, 29, 30, 31, 32, 19, 20, 21, 22, 23, 75, 76, 77, 78, 79, 80, 81, 82, 83, 84, 85] (by decide +kernel) (by decide +kernel)
set_option maxRecDepth 20000 in
theorem gX2_of_X2_plain : GoodIn wsX2_of (wsV RX2 25 RX2 yX2_plain wsX2_plain) := goodIn_app (goodIn_of _ (by decide +kernel)) ggX2_of_X2_plain
theorem dX2_of_0 : decode cX2_of 0 = .ok (.iload_n 2, 1) := by decide +kernel
theorem dX2_of_1 : decode cX2_of 1 = .ok (.tableswitch 70 1 5 #[35, 42, 49, 56, 63], 35) := by decide +kernel
theorem dX2_of_36 : decode cX2_of 36 = .ok (.aload_n 0, 1) := by decide +kernel
theorem dX2_of_37 : decode cX2_of 37 = .ok (.aload_n 1, 1) := by decide +kernel
theorem dX2_of_38 : decode cX2_of 38 = .ok (.iload_n 3, 1) := by decide +kernel
theorem dX2_of_39 : decode cX2_of 39 = .ok (.invokevirtual 7, 3) := by decide +kernel
theorem dX2_of_42 : decode cX2_of 42 = .ok (.ireturn, 1) := by decide +kernel
theorem dX2_of_43 : decode cX2_of 43 = .ok (.aload_n 0, 1) := by decide +kernel
theorem dX2_of_44 : decode cX2_of 44 = .ok (.aload_n 1, 1) := by decide +kernel
theorem dX2_of_45 : decode cX2_of 45 = .ok (.iload_n 3, 1) := by decide +kernel
theorem dX2_of_46 : decode cX2_of 46 = .ok (.invokevirtual 13, 3) := by decide +kernel
theorem dX2_of_49 : decode cX2_of 49 = .ok (.ireturn, 1) := by decide +kernel
theorem dX2_of_50 : decode cX2_of 50 = .ok (.aload_n 0, 1) := by decide +kernel
theorem dX2_of_51 : decode cX2_of 51 = .ok (.aload_n 1, 1) := by decide +kernel
theorem dX2_of_52 : decode cX2_of 52 = .ok (.iload_n 3, 1) := by decide +kernel
theorem dX2_of_53 : decode cX2_of 53 = .ok (.invokevirtual 16, 3) := by decide +kernel
theorem dX2_of_56 : decode cX2_of 56 = .ok (.ireturn, 1) := by decide +kernel
theorem dX2_of_57 : decode cX2_of 57 = .ok (.aload_n 0, 1) := by decide +kernel
theorem dX2_of_58 : decode cX2_of 58 = .ok (.aload_n 1, 1) := by decide +kernel
theorem dX2_of_59 : decode cX2_of 59 = .ok (.iload_n 3, 1) := by decide +kernel
theorem dX2_of_60 : decode cX2_of 60 = .ok (.invokevirtual 19, 3) := by decide +kernel
theorem dX2_of_63 : decode cX2_of 63 = .ok (.ireturn, 1) := by decide +kernel
theorem dX2_of_64 : decode cX2_of 64 = .ok (.aload_n 0, 1) := by decide +kernel
theorem dX2_of_65 : decode cX2_of 65 = .ok (.aload_n 1, 1) := by decide +kernel
theorem dX2_of_66 : decode cX2_of 66 = .ok (.iload_n 3, 1) := by decide +kernel
theorem dX2_of_67 : decode cX2_of 67 = .ok (.invokevirtual 22, 3) := by decide +kernel
theorem dX2_of_70 : decode cX2_of 70 = .ok (.ireturn, 1) := by decide +kernel
theorem dX2_of_71 : decode cX2_of 71 = .ok (.aload_n 0, 1) := by decide +kernel
theorem dX2_of_72 : decode cX2_of 72 = .ok (.aload_n 1, 1) := by decide +kernel
theorem dX2_of_73 : decode cX2_of 73 = .ok (.iload_n 3, 1) := by decide +kernel
theorem dX2_of_74 : decode cX2_of 74 = .ok (.invokevirtual 25, 3) := by decide +kernel
theorem dX2_of_77 : decode cX2_of 77 = .ok (.ireturn, 1) := by decide +kernel
set_option maxRecDepth 20000 in
theorem ggX2_plain_X8_hasHouse : GoodIn wsX2_plain wsX8_hasHouse := goodIn_r _ [6, 7, 19, 20, 21, 22, 23, 24, 25, 26, 27, 28] (by decide +kernel) (by decide +kernel)
set_option maxRecDepth 20000 in
theorem gX2_plain_X8_hasHouse : GoodIn wsX2_plain (wsV RX2 32 RX8 yX8_hasHouse wsX8_hasHouse) := goodIn_app (goodIn_of _ (by decide +kernel)) ggX2_plain_X8_hasHouse
set_option maxRecDepth 20000 in
theorem ggX2_plain_X8_priceOf : GoodIn wsX2_plain wsX8_priceOf := goodIn_r _ [11, 12, 13, 14, 15, 5, 16, 17, 19, 20, 21, 22, 23, 24, 25, 26, 27, 28] (by decide +kernel) (by decide +kernel)
set_option maxRecDepth 20000 in
theorem gX2_plain_X8_priceOf : GoodIn wsX2_plain (wsV RX2 42 RX8 yX8_priceOf wsX8_priceOf) := goodIn_app (goodIn_of _ (by decide +kernel)) ggX2_plain_X8_priceOf
theorem dX2_plain_0 : decode cX2_plain 0 = .ok (.aload_n 0, 1) := by decide +kernel
theorem dX2_plain_1 : decode cX2_plain 1 = .ok (.dup, 1) := by decide +kernel
theorem dX2_plain_2 : decode cX2_plain 2 = .ok (.getfield 28, 3) := by decide +kernel
theorem dX2_plain_5 : decode cX2_plain 5 = .ok (.lconst 1, 1) := by decide +kernel
theorem dX2_plain_6 : decode cX2_plain 6 = .ok (.ladd, 1) := by decide +kernel
theorem dX2_plain_7 : decode cX2_plain 7 = .ok (.putfield 28, 3) := by decide +kernel
theorem dX2_plain_10 : decode cX2_plain 10 = .ok (.aload_n 1, 1) := by decide +kernel
theorem dX2_plain_11 : decode cX2_plain 11 = .ok (.iload_n 2, 1) := by decide +kernel
theorem dX2_plain_12 : decode cX2_plain 12 = .ok (.invokevirtual 32, 3) := by decide +kernel
theorem dX2_plain_15 : decode cX2_plain 15 = .ok (.ifCond .eq 16, 3) := by decide +kernel
theorem dX2_plain_18 : decode cX2_plain 18 = .ok (.aload_n 1, 1) := by decide +kernel
theorem dX2_plain_19 : decode cX2_plain 19 = .ok (.aload_n 1, 1) := by decide +kernel
theorem dX2_plain_20 : decode cX2_plain 20 = .ok (.getfield 38, 3) := by decide +kernel
theorem dX2_plain_23 : decode cX2_plain 23 = .ok (.iload_n 2, 1) := by decide +kernel
theorem dX2_plain_24 : decode cX2_plain 24 = .ok (.iaload, 1) := by decide +kernel
theorem dX2_plain_25 : decode cX2_plain 25 = .ok (.invokevirtual 42, 3) := by decide +kernel
theorem dX2_plain_28 : decode cX2_plain 28 = .ok (.goto 4, 3) := by decide +kernel
theorem dX2_plain_31 : decode cX2_plain 31 = .ok (.iconst 0, 1) := by decide +kernel
theorem dX2_plain_32 : decode cX2_plain 32 = .ok (.ireturn, 1) := by decide +kernel
set_option maxRecDepth 20000 in
theorem ggX2_straw_X8_hasHouse : GoodIn wsX2_straw wsX8_hasHouse := goodIn_r _ [7, 8, 30, 31, 32, 33, 34, 35, 36, 37, 38, 39] (by decide +kernel) (by decide +kernel)
set_option maxRecDepth 20000 in
theorem gX2_straw_X8_hasHouse : GoodIn wsX2_straw (wsV RX2 32 RX8 yX8_hasHouse wsX8_hasHouse) := goodIn_app (goodIn_of _ (by decide +kernel)) ggX2_straw_X8_hasHouse
set_option maxRecDepth 20000 in
theorem ggX2_straw_X8_burnOf : GoodIn wsX2_straw wsX8_burnOf := goodIn_r _ [12, 13, 14, 15, 16, 6, 17, 18, 30, 31, 32, 33, 34, 35, 36, 37, 38, 39] (by decide +kernel) (by decide +kernel)
set_option maxRecDepth 20000 in
theorem gX2_straw_X8_burnOf : GoodIn wsX2_straw (wsV RX2 48 RX8 yX8_burnOf wsX8_burnOf) := goodIn_app (goodIn_of _ (by decide +kernel)) ggX2_straw_X8_burnOf
set_option maxRecDepth 20000 in
theorem ggX2_straw_X2_plain : GoodIn wsX2_straw wsX2_plain := goodIn_r _ [23, 1, 3, 4, 5, 6, 7, 8, 24, 25, 26, 27, 28, 14, 15, 16, 17, 18, 29, 30, 31, 32, 33, 34, 35, 36, 37, 38, 39] (by decide +kernel) (by decide +kernel)
set_option maxRecDepth 20000 in
theorem gX2_straw_X2_plain : GoodIn wsX2_straw (wsV RX2 25 RX2 yX2_plain wsX2_plain) := goodIn_app (goodIn_of _ (by decide +kernel)) ggX2_straw_X2_plain
theorem dX2_straw_0 : decode cX2_straw 0 = .ok (.aload_n 0, 1) := by decide +kernel
theorem dX2_straw_1 : decode cX2_straw 1 = .ok (.dup, 1) := by decide +kernel
theorem dX2_straw_2 : decode cX2_straw 2 = .ok (.getfield 28, 3) := by decide +kernel
theorem dX2_straw_5 : decode cX2_straw 5 = .ok (.ldc2_w 46, 3) := by decide +kernel
theorem dX2_straw_8 : decode cX2_straw 8 = .ok (.ladd, 1) := by decide +kernel
theorem dX2_straw_9 : decode cX2_straw 9 = .ok (.putfield 28, 3) := by decide +kernel
theorem dX2_straw_12 : decode cX2_straw 12 = .ok (.aload_n 1, 1) := by decide +kernel
theorem dX2_straw_13 : decode cX2_straw 13 = .ok (.iload_n 2, 1) := by decide +kernel
theorem dX2_straw_14 : decode cX2_straw 14 = .ok (.invokevirtual 32, 3) := by decide +kernel
theorem dX2_straw_17 : decode cX2_straw 17 = .ok (.ifCond .eq 16, 3) := by decide +kernel
theorem dX2_straw_20 : decode cX2_straw 20 = .ok (.aload_n 1, 1) := by decide +kernel
theorem dX2_straw_21 : decode cX2_straw 21 = .ok (.aload_n 1, 1) := by decide +kernel
theorem dX2_straw_22 : decode cX2_straw 22 = .ok (.getfield 38, 3) := by decide +kernel
theorem dX2_straw_25 : decode cX2_straw 25 = .ok (.iload_n 2, 1) := by decide +kernel
theorem dX2_straw_26 : decode cX2_straw 26 = .ok (.iaload, 1) := by decide +kernel
theorem dX2_straw_27 : decode cX2_straw 27 = .ok (.invokevirtual 48, 3) := by decide +kernel
theorem dX2_straw_30 : decode cX2_straw 30 = .ok (.goto 4, 3) := by decide +kernel
theorem dX2_straw_33 : decode cX2_straw 33 = .ok (.iconst 0, 1) := by decide +kernel
theorem dX2_straw_34 : decode cX2_straw 34 = .ok (.istore_n 3, 1) := by decide +kernel
theorem dX2_straw_35 : decode cX2_straw 35 = .ok (.aload_n 0, 1) := by decide +kernel
theorem dX2_straw_36 : decode cX2_straw 36 = .ok (.aload_n 1, 1) := by decide +kernel
theorem dX2_straw_37 : decode cX2_straw 37 = .ok (.iload_n 2, 1) := by decide +kernel
theorem dX2_straw_38 : decode cX2_straw 38 = .ok (.invokevirtual 25, 3) := by decide +kernel
theorem dX2_straw_41 : decode cX2_straw 41 = .ok (.iload_n 3, 1) := by decide +kernel
theorem dX2_straw_42 : decode cX2_straw 42 = .ok (.iadd, 1) := by decide +kernel
theorem dX2_straw_43 : decode cX2_straw 43 = .ok (.ireturn, 1) := by decide +kernel
set_option maxRecDepth 20000 in
theorem ggX2_slate_X2_plain : GoodIn wsX2_slate wsX2_plain := goodIn_r _ [7, 1, 8, 9, 10, 11, 12, 13, 14, 15, 16, 17, 18, 19, 20, 21, 22, 23, 46, 47, 48, 49, 50, 51, 52, 53, 54, 55, 56] (by decide +kernel) (by decide +kernel)
set_option maxRecDepth 20000 in
theorem gX2_slate_X2_plain : GoodIn wsX2_slate (wsV RX2 25 RX2 yX2_plain wsX2_plain) := goodIn_app (goodIn_of _ (by decide +kernel)) ggX2_slate_X2_plain
set_option maxRecDepth 20000 in
theorem ggX2_slate_X8_touched : GoodIn wsX2_slate wsX8_touched := goodIn_r _ [27, 28, 29, 30, 11, 31, 13, 32, 33, 34, 35, 36, 37, 38, 9, 10, 12, 47, 48, 49, 50, 51, 52, 53, 54, 55, 56] (by decide +kernel) (by decide +kernel)
set_option maxRecDepth 20000 in
theorem gX2_slate_X8_touched : GoodIn wsX2_slate (wsV RX2 53 RX8 yX8_touched wsX8_touched) := goodIn_app (goodIn_of _ (by decide +kernel)) ggX2_slate_X8_touched
set_option maxRecDepth 20000 in
theorem ggX2_slate_J6_bitCount_0f7a4 : GoodIn wsX2_slate wsJ6_bitCount_0f7a4 := goodIn_r _ [42, 43, 44, 45] (by decide +kernel) (by decide +kernel)
set_option maxRecDepth 20000 in
theorem gX2_slate_J6_bitCount_0f7a4 : GoodIn wsX2_slate (va_wsS RX2 56 yJ6_bitCount_0f7a4 wsJ6_bitCount_0f7a4) := goodIn_app (goodIn_of _ (by decide +kernel)) ggX2_slate_J6_bitCount_0f7a4
theorem dX2_slate_0 : decode cX2_slate 0 = .ok (.aload_n 0, 1) := by decide +kernel
theorem dX2_slate_1 : decode cX2_slate 1 = .ok (.dup, 1) := by decide +kernel
theorem dX2_slate_2 : decode cX2_slate 2 = .ok (.getfield 28, 3) := by decide +kernel
theorem dX2_slate_5 : decode cX2_slate 5 = .ok (.ldc2_w 51, 3) := by decide +kernel
theorem dX2_slate_8 : decode cX2_slate 8 = .ok (.ladd, 1) := by decide +kernel
theorem dX2_slate_9 : decode cX2_slate 9 = .ok (.putfield 28, 3) := by decide +kernel
theorem dX2_slate_12 : decode cX2_slate 12 = .ok (.aload_n 0, 1) := by decide +kernel
theorem dX2_slate_13 : decode cX2_slate 13 = .ok (.aload_n 1, 1) := by decide +kernel
theorem dX2_slate_14 : decode cX2_slate 14 = .ok (.iload_n 2, 1) := by decide +kernel
theorem dX2_slate_15 : decode cX2_slate 15 = .ok (.invokevirtual 25, 3) := by decide +kernel
theorem dX2_slate_18 : decode cX2_slate 18 = .ok (.aload_n 1, 1) := by decide +kernel
theorem dX2_slate_19 : decode cX2_slate 19 = .ok (.iload_n 2, 1) := by decide +kernel
theorem dX2_slate_20 : decode cX2_slate 20 = .ok (.invokevirtual 53, 3) := by decide +kernel
theorem dX2_slate_23 : decode cX2_slate 23 = .ok (.invokestatic 56, 3) := by decide +kernel
theorem dX2_slate_26 : decode cX2_slate 26 = .ok (.isub, 1) := by decide +kernel
theorem dX2_slate_27 : decode cX2_slate 27 = .ok (.ireturn, 1) := by decide +kernel
set_option maxRecDepth 20000 in
theorem ggX2_mossed_X2_straw : GoodIn wsX2_mossed wsX2_straw := goodIn_r _ [7, 1, 8, 9, 10, 11, 12, 13, 14, 15, 16, 17, 18, 19, 20, 21, 22, 23, 24, 25, 26, 27, 6, 28, 29, 30, 31, 32, 33, 34, 35, 36, 37, 38, 39, 40, 41, 42, 43, 44] (by decide +kernel) (by decide +kernel)
set_option maxRecDepth 20000 in
theorem gX2_mossed_X2_straw : GoodIn wsX2_mossed (wsV RX2 7 RX2 yX2_straw wsX2_straw) := goodIn_app (goodIn_of _ (by decide +kernel)) ggX2_mossed_X2_straw
theorem dX2_mossed_0 : decode cX2_mossed 0 = .ok (.aload_n 0, 1) := by decide +kernel
theorem dX2_mossed_1 : decode cX2_mossed 1 = .ok (.dup, 1) := by decide +kernel
theorem dX2_mossed_2 : decode cX2_mossed 2 = .ok (.getfield 28, 3) := by decide +kernel
theorem dX2_mossed_5 : decode cX2_mossed 5 = .ok (.ldc2_w 61, 3) := by decide +kernel
theorem dX2_mossed_8 : decode cX2_mossed 8 = .ok (.ladd, 1) := by decide +kernel
theorem dX2_mossed_9 : decode cX2_mossed 9 = .ok (.putfield 28, 3) := by decide +kernel
theorem dX2_mossed_12 : decode cX2_mossed 12 = .ok (.iconst 2, 1) := by decide +kernel
theorem dX2_mossed_13 : decode cX2_mossed 13 = .ok (.aload_n 0, 1) := by decide +kernel
theorem dX2_mossed_14 : decode cX2_mossed 14 = .ok (.aload_n 1, 1) := by decide +kernel
theorem dX2_mossed_15 : decode cX2_mossed 15 = .ok (.iload_n 2, 1) := by decide +kernel
theorem dX2_mossed_16 : decode cX2_mossed 16 = .ok (.invokevirtual 7, 3) := by decide +kernel
theorem dX2_mossed_19 : decode cX2_mossed 19 = .ok (.imul, 1) := by decide +kernel
theorem dX2_mossed_20 : decode cX2_mossed 20 = .ok (.ireturn, 1) := by decide +kernel
set_option maxRecDepth 20000 in
theorem ggX2_tarred_X2_slate : GoodIn wsX2_tarred wsX2_slate := goodIn_r _ [7, 1, 8, 9, 10, 11, 6, 12, 13, 14, 15, 16, 17, 18, 19, 20, 21, 22, 23, 24, 25, 26, 27, 28, 29, 30, 31, 32, 33, 34, 35, 36, 37, 38, 39, 40, 41, 42, 43, 44, 45, 46, 47, 48, 49, 50, 51, 52, 53, 54, 55, 56, 57, 58, 59, 60, 61] (by decide +kernel) (by decide +kernel)
set_option maxRecDepth 20000 in
theorem gX2_tarred_X2_slate : GoodIn wsX2_tarred (wsV RX2 13 RX2 yX2_slate wsX2_slate) := goodIn_app (goodIn_of _ (by decide +kernel)) ggX2_tarred_X2_slate
theorem dX2_tarred_0 : decode cX2_tarred 0 = .ok (.aload_n 0, 1) := by decide +kernel
theorem dX2_tarred_1 : decode cX2_tarred 1 = .ok (.dup, 1) := by decide +kernel
theorem dX2_tarred_2 : decode cX2_tarred 2 = .ok (.getfield 28, 3) := by decide +kernel
theorem dX2_tarred_5 : decode cX2_tarred 5 = .ok (.ldc2_w 63, 3) := by decide +kernel
theorem dX2_tarred_8 : decode cX2_tarred 8 = .ok (.ladd, 1) := by decide +kernel
theorem dX2_tarred_9 : decode cX2_tarred 9 = .ok (.putfield 28, 3) := by decide +kernel
theorem dX2_tarred_12 : decode cX2_tarred 12 = .ok (.aload_n 0, 1) := by decide +kernel
theorem dX2_tarred_13 : decode cX2_tarred 13 = .ok (.aload_n 1, 1) := by decide +kernel
theorem dX2_tarred_14 : decode cX2_tarred 14 = .ok (.iload_n 2, 1) := by decide +kernel
theorem dX2_tarred_15 : decode cX2_tarred 15 = .ok (.invokevirtual 13, 3) := by decide +kernel
theorem dX2_tarred_18 : decode cX2_tarred 18 = .ok (.aload_n 1, 1) := by decide +kernel
theorem dX2_tarred_19 : decode cX2_tarred 19 = .ok (.getfield 65, 3) := by decide +kernel
theorem dX2_tarred_22 : decode cX2_tarred 22 = .ok (.iadd, 1) := by decide +kernel
theorem dX2_tarred_23 : decode cX2_tarred 23 = .ok (.ireturn, 1) := by decide +kernel
set_option maxRecDepth 20000 in
theorem ggX2_lead_X2_plain : GoodIn wsX2_lead wsX2_plain := goodIn_r _ [7, 1, 8, 9, 10, 11, 12, 13, 14, 15, 16, 17, 18, 19, 20, 21, 22, 23, 24, 25, 26, 27, 28, 29, 30, 31, 32, 33, 34] (by decide +kernel) (by decide +kernel)
set_option maxRecDepth 20000 in
theorem gX2_lead_X2_plain : GoodIn wsX2_lead (wsV RX2 25 RX2 yX2_plain wsX2_plain) := goodIn_app (goodIn_of _ (by decide +kernel)) ggX2_lead_X2_plain
theorem dX2_lead_0 : decode cX2_lead 0 = .ok (.aload_n 0, 1) := by decide +kernel
theorem dX2_lead_1 : decode cX2_lead 1 = .ok (.dup, 1) := by decide +kernel
theorem dX2_lead_2 : decode cX2_lead 2 = .ok (.getfield 28, 3) := by decide +kernel
theorem dX2_lead_5 : decode cX2_lead 5 = .ok (.ldc2_w 69, 3) := by decide +kernel
theorem dX2_lead_8 : decode cX2_lead 8 = .ok (.ladd, 1) := by decide +kernel
theorem dX2_lead_9 : decode cX2_lead 9 = .ok (.putfield 28, 3) := by decide +kernel
theorem dX2_lead_12 : decode cX2_lead 12 = .ok (.aload_n 0, 1) := by decide +kernel
theorem dX2_lead_13 : decode cX2_lead 13 = .ok (.aload_n 1, 1) := by decide +kernel
theorem dX2_lead_14 : decode cX2_lead 14 = .ok (.iload_n 2, 1) := by decide +kernel
theorem dX2_lead_15 : decode cX2_lead 15 = .ok (.invokevirtual 25, 3) := by decide +kernel
theorem dX2_lead_18 : decode cX2_lead 18 = .ok (.iload_n 2, 1) := by decide +kernel
theorem dX2_lead_19 : decode cX2_lead 19 = .ok (.isub, 1) := by decide +kernel
theorem dX2_lead_20 : decode cX2_lead 20 = .ok (.ireturn, 1) := by decide +kernel
set_option maxRecDepth 20000 in
theorem ggX3_readAll_X7_kind : GoodIn wsX3_readAll wsX7_kind := goodIn_r _ [5, 6, 7, 8, 78, 79, 80, 81, 82, 83, 84, 85] (by decide +kernel) (by decide +kernel)
set_option maxRecDepth 20000 in
theorem gX3_readAll_X7_kind : GoodIn wsX3_readAll (wsV RX3 9 RX7 yX7_kind wsX7_kind) := goodIn_app (goodIn_of _ (by decide +kernel)) ggX3_readAll_X7_kind
set_option maxRecDepth 20000 in
theorem ggX3_readAll_X3_readItem : GoodIn wsX3_readAll wsX3_readItem := goodIn_r _ [12, 1, 2, 3, 4, 5, 6, 7, 8, 13, 14, 11, 15, 16, 17, 18, 19, 20, 21, 22, 23, 24, 25, 26, 27, 28, 29, 30, 31, 32, 33, 34, 35, 36, 37, 38, 39, 40, 41, 42, 43, 44, 45, 46, 47, 48, 49, 50, 51, 52, 53, 54, 55, 56, 57, 58, 59, 60, 61, 62, 63, 64, 65, 66, 67, 68, 69, 70, 71, 72, 78, 79, 80, 81, 82, 83, 84, 85, 86, 87, 88, 89, 90, 91, 92, 93, 94, 95] (by decide +kernel) (by decide +kernel)
set_option maxRecDepth 20000 in
theorem gX3_readAll_X3_readItem : GoodIn wsX3_readAll (va_wsS RX3 15 yX3_readItem wsX3_readItem) := goodIn_app (goodIn_of _ (by decide +kernel)) ggX3_readAll_X3_readItem
set_option maxRecDepth 20000 in
theorem ggX3_readAll_X7_place : GoodIn wsX3_readAll wsX7_place := goodIn_r _ [76, 6, 7, 77, 78, 79, 80, 81, 82, 83, 84, 85] (by decide +kernel) (by decide +kernel)
set_option maxRecDepth 20000 in
theorem gX3_readAll_X7_place : GoodIn wsX3_readAll (wsV RX3 21 RX7 yX7_place wsX7_place) := goodIn_app (goodIn_of _ (by decide +kernel)) ggX3_readAll_X7_place
set_option maxRecDepth 20000 in
theorem ggX3_readAll_X7_advance : GoodIn wsX3_readAll wsX7_advance := goodIn_r _ [22, 6, 7, 78, 79, 80, 81, 82, 83, 84, 85] (by decide +kernel) (by decide +kernel)
set_option maxRecDepth 20000 in
theorem gX3_readAll_X7_advance : GoodIn wsX3_readAll (wsV RX3 24 RX7 yX7_advance wsX7_advance) := goodIn_app (goodIn_of _ (by decide +kernel)) ggX3_readAll_X7_advance
theorem dX3_readAll_0 : decode cX3_readAll 0 = .ok (.iconst 0, 1) := by decide +kernel
theorem dX3_readAll_1 : decode cX3_readAll 1 = .ok (.istore_n 2, 1) := by decide +kernel
theorem dX3_readAll_2 : decode cX3_readAll 2 = .ok (.aload_n 0, 1) := by decide +kernel
theorem dX3_readAll_3 : decode cX3_readAll 3 = .ok (.invokevirtual 9, 3) := by decide +kernel
theorem dX3_readAll_6 : decode cX3_readAll 6 = .ok (.ifCond .eq 36, 3) := by decide +kernel
theorem dX3_readAll_9 : decode cX3_readAll 9 = .ok (.iload_n 2, 1) := by decide +kernel
theorem dX3_readAll_10 : decode cX3_readAll 10 = .ok (.sipush 300, 3) := by decide +kernel
theorem dX3_readAll_13 : decode cX3_readAll 13 = .ok (.if_icmp .gt 29, 3) := by decide +kernel
theorem dX3_readAll_16 : decode cX3_readAll 16 = .ok (.aload_n 0, 1) := by decide +kernel
theorem dX3_readAll_17 : decode cX3_readAll 17 = .ok (.aload_n 1, 1) := by decide +kernel
theorem dX3_readAll_18 : decode cX3_readAll 18 = .ok (.invokestatic 15, 3) := by decide +kernel
theorem dX3_readAll_21 : decode cX3_readAll 21 = .ok (.ifCond .ne 11, 3) := by decide +kernel
theorem dX3_readAll_24 : decode cX3_readAll 24 = .ok (.bipush (-10), 2) := by decide +kernel
theorem dX3_readAll_26 : decode cX3_readAll 26 = .ok (.aload_n 0, 1) := by decide +kernel
theorem dX3_readAll_27 : decode cX3_readAll 27 = .ok (.invokevirtual 21, 3) := by decide +kernel
theorem dX3_readAll_30 : decode cX3_readAll 30 = .ok (.isub, 1) := by decide +kernel
theorem dX3_readAll_31 : decode cX3_readAll 31 = .ok (.ireturn, 1) := by decide +kernel
theorem dX3_readAll_32 : decode cX3_readAll 32 = .ok (.iinc 2 1, 3) := by decide +kernel
theorem dX3_readAll_35 : decode cX3_readAll 35 = .ok (.aload_n 0, 1) := by decide +kernel
theorem dX3_readAll_36 : decode cX3_readAll 36 = .ok (.invokevirtual 24, 3) := by decide +kernel
theorem dX3_readAll_39 : decode cX3_readAll 39 = .ok (.goto (-37), 3) := by decide +kernel
theorem dX3_readAll_42 : decode cX3_readAll 42 = .ok (.iload_n 2, 1) := by decide +kernel
theorem dX3_readAll_43 : decode cX3_readAll 43 = .ok (.ireturn, 1) := by decide +kernel
set_option maxRecDepth 20000 in
theorem ggX3_readItem_X7_kind : GoodIn wsX3_readItem wsX7_kind := goodIn_r _ [5, 6, 7, 8, 70, 71, 72, 73, 74, 75, 76, 77] (by decide +kernel) (by decide +kernel)
set_option maxRecDepth 20000 in
theorem gX3_readItem_X7_kind : GoodIn wsX3_readItem (wsV RX3 9 RX7 yX7_kind wsX7_kind) := goodIn_app (goodIn_of _ (by decide +kernel)) ggX3_readItem_X7_kind
set_option maxRecDepth 20000 in
theorem ggX3_readItem_X3_readSort : GoodIn wsX3_readItem wsX3_readSort := goodIn_r _ [12, 13, 14, 11, 15, 16, 17, 18, 4, 19, 6, 7, 20, 21, 22, 23, 24, 25, 2, 3, 5, 8, 26, 27, 28, 1, 29, 30, 31, 32, 33, 34, 35, 36, 78, 79, 80, 81, 82, 83, 84, 85, 86, 87, 70, 71, 72, 73, 74, 75, 76, 77] (by decide +kernel) (by decide +kernel)
set_option maxRecDepth 20000 in
theorem gX3_readItem_X3_readSort : GoodIn wsX3_readItem (va_wsS RX3 27 yX3_readSort wsX3_readSort) := goodIn_app (goodIn_of _ (by decide +kernel)) ggX3_readItem_X3_readSort
set_option maxRecDepth 20000 in
theorem ggX3_readItem_X3_readHouse : GoodIn wsX3_readItem wsX3_readHouse := goodIn_r _ [39, 13, 14, 11, 15, 16, 17, 18, 4, 19, 6, 7, 20, 21, 22, 23, 24, 25, 2, 3, 5, 8, 40, 41, 42, 32, 43, 44, 45, 46, 26, 27, 28, 1, 47, 48, 49, 50, 51, 52, 78, 79, 80, 81, 82, 83, 84, 85, 86, 87, 70, 71, 72, 73, 74, 75, 76, 77] (by decide +kernel) (by decide +kernel)
set_option maxRecDepth 20000 in
theorem gX3_readItem_X3_readHouse : GoodIn wsX3_readItem (va_wsS RX3 30 yX3_readHouse wsX3_readHouse) := goodIn_app (goodIn_of _ (by decide +kernel)) ggX3_readItem_X3_readHouse
set_option maxRecDepth 20000 in
theorem ggX3_readItem_X3_readRoof : GoodIn wsX3_readItem wsX3_readRoof := goodIn_r _ [55, 13, 14, 11, 15, 16, 17, 18, 4, 19, 6, 7, 20, 21, 22, 23, 24, 25, 2, 3, 5, 8, 56, 57, 58, 32, 59, 52, 60, 61, 62, 63, 44, 26, 27, 28, 1, 78, 79, 80, 81, 82, 83, 84, 85, 86, 87, 70, 71, 72, 73, 74, 75, 76, 77] (by decide +kernel) (by decide +kernel)
set_option maxRecDepth 20000 in
theorem gX3_readItem_X3_readRoof : GoodIn wsX3_readItem (va_wsS RX3 33 yX3_readRoof wsX3_readRoof) := goodIn_app (goodIn_of _ (by decide +kernel)) ggX3_readItem_X3_readRoof
set_option maxRecDepth 20000 in
theorem ggX3_readItem_X3_readBound : GoodIn wsX3_readItem wsX3_readBound := goodIn_r _ [66, 13, 14, 11, 15, 16, 17, 18, 4, 19, 6, 7, 20, 21, 22, 23, 24, 25, 2, 3, 5, 8, 26, 27, 28, 1, 78, 79, 80, 81, 82, 83, 84, 85, 86, 87, 70, 71, 72, 73, 74, 75, 76, 77] (by decide +kernel) (by decide +kernel)
set_option maxRecDepth 20000 in
theorem gX3_readItem_X3_readBound : GoodIn wsX3_readItem (va_wsS RX3 36 yX3_readBound wsX3_readBound) := goodIn_app (goodIn_of _ (by decide +kernel)) ggX3_readItem_X3_readBound
set_option maxRecDepth 20000 in
theorem ggX3_readItem_X3_readWind : GoodIn wsX3_readItem wsX3_readWind := goodIn_r _ [69, 16, 17, 18, 4, 19, 6, 7, 1, 2, 3, 5, 8, 26, 27, 11, 28, 78, 79, 80, 81, 82, 83, 84, 85, 86, 87, 70, 71, 72, 73, 74, 75, 76, 77] (by decide +kernel) (by decide +kernel)
set_option maxRecDepth 20000 in
theorem gX3_readItem_X3_readWind : GoodIn wsX3_readItem (va_wsS RX3 39 yX3_readWind wsX3_readWind) := goodIn_app (goodIn_of _ (by decide +kernel)) ggX3_readItem_X3_readWind
theorem dX3_readItem_0 : decode cX3_readItem 0 = .ok (.aload_n 0, 1) := by decide +kernel
theorem dX3_readItem_1 : decode cX3_readItem 1 = .ok (.invokevirtual 9, 3) := by decide +kernel
theorem dX3_readItem_4 : decode cX3_readItem 4 = .ok (.tableswitch 66 4 8 #[36, 42, 48, 54, 60], 36) := by decide +kernel
theorem dX3_readItem_40 : decode cX3_readItem 40 = .ok (.aload_n 0, 1) := by decide +kernel
theorem dX3_readItem_41 : decode cX3_readItem 41 = .ok (.aload_n 1, 1) := by decide +kernel
theorem dX3_readItem_42 : decode cX3_readItem 42 = .ok (.invokestatic 27, 3) := by decide +kernel
theorem dX3_readItem_45 : decode cX3_readItem 45 = .ok (.ireturn, 1) := by decide +kernel
theorem dX3_readItem_46 : decode cX3_readItem 46 = .ok (.aload_n 0, 1) := by decide +kernel
theorem dX3_readItem_47 : decode cX3_readItem 47 = .ok (.aload_n 1, 1) := by decide +kernel
theorem dX3_readItem_48 : decode cX3_readItem 48 = .ok (.invokestatic 30, 3) := by decide +kernel
theorem dX3_readItem_51 : decode cX3_readItem 51 = .ok (.ireturn, 1) := by decide +kernel
theorem dX3_readItem_52 : decode cX3_readItem 52 = .ok (.aload_n 0, 1) := by decide +kernel
theorem dX3_readItem_53 : decode cX3_readItem 53 = .ok (.aload_n 1, 1) := by decide +kernel
theorem dX3_readItem_54 : decode cX3_readItem 54 = .ok (.invokestatic 33, 3) := by decide +kernel
theorem dX3_readItem_57 : decode cX3_readItem 57 = .ok (.ireturn, 1) := by decide +kernel
theorem dX3_readItem_58 : decode cX3_readItem 58 = .ok (.aload_n 0, 1) := by decide +kernel
theorem dX3_readItem_59 : decode cX3_readItem 59 = .ok (.aload_n 1, 1) := by decide +kernel
theorem dX3_readItem_60 : decode cX3_readItem 60 = .ok (.invokestatic 36, 3) := by decide +kernel
theorem dX3_readItem_63 : decode cX3_readItem 63 = .ok (.ireturn, 1) := by decide +kernel
theorem dX3_readItem_64 : decode cX3_readItem 64 = .ok (.aload_n 0, 1) := by decide +kernel
theorem dX3_readItem_65 : decode cX3_readItem 65 = .ok (.aload_n 1, 1) := by decide +kernel
theorem dX3_readItem_66 : decode cX3_readItem 66 = .ok (.invokestatic 39, 3) := by decide +kernel
theorem dX3_readItem_69 : decode cX3_readItem 69 = .ok (.ireturn, 1) := by decide +kernel
theorem dX3_readItem_70 : decode cX3_readItem 70 = .ok (.iconst 0, 1) := by decide +kernel
theorem dX3_readItem_71 : decode cX3_readItem 71 = .ok (.ireturn, 1) := by decide +kernel
set_option maxRecDepth 20000 in
theorem ggX3_readSort_X3_number : GoodIn wsX3_readSort wsX3_number := goodIn_r _ [4, 5, 6, 7, 8, 9, 10, 11, 12, 13, 14, 15, 16, 17, 18, 19, 20, 21, 44, 45, 46, 47, 48, 49, 50, 51] (by decide +kernel) (by decide +kernel)
set_option maxRecDepth 20000 in
theorem gX3_readSort_X3_number : GoodIn wsX3_readSort (va_wsS RX3 48 yX3_number wsX3_number) := goodIn_app (goodIn_of _ (by decide +kernel)) ggX3_readSort_X3_number
set_option maxRecDepth 20000 in
theorem ggX3_readSort_X3_stop : GoodIn wsX3_readSort wsX3_stop := goodIn_r _ [24, 5, 6, 7, 8, 9, 10, 11, 25, 18, 19, 20, 21, 44, 45, 46, 47, 48, 49, 50, 51] (by decide +kernel) (by decide +kernel)
set_option maxRecDepth 20000 in
theorem gX3_readSort_X3_stop : GoodIn wsX3_readSort (va_wsS RX3 52 yX3_stop wsX3_stop) := goodIn_app (goodIn_of _ (by decide +kernel)) ggX3_readSort_X3_stop
set_option maxRecDepth 20000 in
theorem ggX3_readSort_X8_addSort : GoodIn wsX3_readSort wsX8_addSort := goodIn_r _ [30, 31, 32, 33, 34, 35, 36, 37, 38, 39, 40, 41, 42, 43] (by decide +kernel) (by decide +kernel)
set_option maxRecDepth 20000 in
theorem gX3_readSort_X8_addSort : GoodIn wsX3_readSort (wsV RX3 56 RX8 yX8_addSort wsX8_addSort) := goodIn_app (goodIn_of _ (by decide +kernel)) ggX3_readSort_X8_addSort
theorem dX3_readSort_0 : decode cX3_readSort 0 = .ok (.aload_n 1, 1) := by decide +kernel
theorem dX3_readSort_1 : decode cX3_readSort 1 = .ok (.getfield 42, 3) := by decide +kernel
theorem dX3_readSort_4 : decode cX3_readSort 4 = .ok (.iconst 4, 1) := by decide +kernel
theorem dX3_readSort_5 : decode cX3_readSort 5 = .ok (.if_icmp .lt 5, 3) := by decide +kernel
theorem dX3_readSort_8 : decode cX3_readSort 8 = .ok (.iconst 0, 1) := by decide +kernel
theorem dX3_readSort_9 : decode cX3_readSort 9 = .ok (.ireturn, 1) := by decide +kernel
theorem dX3_readSort_10 : decode cX3_readSort 10 = .ok (.aload_n 0, 1) := by decide +kernel
theorem dX3_readSort_11 : decode cX3_readSort 11 = .ok (.iconst 1, 1) := by decide +kernel
theorem dX3_readSort_12 : decode cX3_readSort 12 = .ok (.bipush 99, 2) := by decide +kernel
theorem dX3_readSort_14 : decode cX3_readSort 14 = .ok (.invokestatic 48, 3) := by decide +kernel
theorem dX3_readSort_17 : decode cX3_readSort 17 = .ok (.istore_n 2, 1) := by decide +kernel
theorem dX3_readSort_18 : decode cX3_readSort 18 = .ok (.iload_n 2, 1) := by decide +kernel
theorem dX3_readSort_19 : decode cX3_readSort 19 = .ok (.bipush (-9), 2) := by decide +kernel
theorem dX3_readSort_21 : decode cX3_readSort 21 = .ok (.if_icmp .ne 5, 3) := by decide +kernel
theorem dX3_readSort_24 : decode cX3_readSort 24 = .ok (.iconst 0, 1) := by decide +kernel
theorem dX3_readSort_25 : decode cX3_readSort 25 = .ok (.ireturn, 1) := by decide +kernel
theorem dX3_readSort_26 : decode cX3_readSort 26 = .ok (.aload_n 0, 1) := by decide +kernel
theorem dX3_readSort_27 : decode cX3_readSort 27 = .ok (.iconst 0, 1) := by decide +kernel
theorem dX3_readSort_28 : decode cX3_readSort 28 = .ok (.bipush 9, 2) := by decide +kernel
theorem dX3_readSort_30 : decode cX3_readSort 30 = .ok (.invokestatic 48, 3) := by decide +kernel
theorem dX3_readSort_33 : decode cX3_readSort 33 = .ok (.istore_n 3, 1) := by decide +kernel
theorem dX3_readSort_34 : decode cX3_readSort 34 = .ok (.iload_n 3, 1) := by decide +kernel
theorem dX3_readSort_35 : decode cX3_readSort 35 = .ok (.bipush (-9), 2) := by decide +kernel
theorem dX3_readSort_37 : decode cX3_readSort 37 = .ok (.if_icmp .eq 10, 3) := by decide +kernel
theorem dX3_readSort_40 : decode cX3_readSort 40 = .ok (.aload_n 0, 1) := by decide +kernel
theorem dX3_readSort_41 : decode cX3_readSort 41 = .ok (.invokestatic 52, 3) := by decide +kernel
theorem dX3_readSort_44 : decode cX3_readSort 44 = .ok (.ifCond .ne 5, 3) := by decide +kernel
theorem dX3_readSort_47 : decode cX3_readSort 47 = .ok (.iconst 0, 1) := by decide +kernel
theorem dX3_readSort_48 : decode cX3_readSort 48 = .ok (.ireturn, 1) := by decide +kernel
theorem dX3_readSort_49 : decode cX3_readSort 49 = .ok (.aload_n 1, 1) := by decide +kernel
theorem dX3_readSort_50 : decode cX3_readSort 50 = .ok (.iload_n 2, 1) := by decide +kernel
theorem dX3_readSort_51 : decode cX3_readSort 51 = .ok (.iload_n 3, 1) := by decide +kernel
theorem dX3_readSort_52 : decode cX3_readSort 52 = .ok (.invokevirtual 56, 3) := by decide +kernel
theorem dX3_readSort_55 : decode cX3_readSort 55 = .ok (.iconst 1, 1) := by decide +kernel
theorem dX3_readSort_56 : decode cX3_readSort 56 = .ok (.ireturn, 1) := by decide +kernel
set_option maxRecDepth 20000 in
theorem ggX3_readHouse_X3_number : GoodIn wsX3_readHouse wsX3_number := goodIn_r _ [4, 5, 6, 7, 8, 9, 10, 11, 12, 13, 14, 15, 16, 17, 18, 19, 20, 21, 50, 51, 52, 53, 54, 55, 56, 57] (by decide +kernel) (by decide +kernel)
set_option maxRecDepth 20000 in
theorem gX3_readHouse_X3_number : GoodIn wsX3_readHouse (va_wsS RX3 48 yX3_number wsX3_number) := goodIn_app (goodIn_of _ (by decide +kernel)) ggX3_readHouse_X3_number
set_option maxRecDepth 20000 in
theorem ggX3_readHouse_X8_bitAt : GoodIn wsX3_readHouse wsX8_bitAt := goodIn_r _ [26, 27, 28, 29, 40, 41, 42, 43, 44, 45, 46, 47, 48, 49] (by decide +kernel) (by decide +kernel)
set_option maxRecDepth 20000 in
theorem gX3_readHouse_X8_bitAt : GoodIn wsX3_readHouse (wsV RX3 63 RX8 yX8_bitAt wsX8_bitAt) := goodIn_app (goodIn_of _ (by decide +kernel)) ggX3_readHouse_X8_bitAt
set_option maxRecDepth 20000 in
theorem ggX3_readHouse_X3_stop : GoodIn wsX3_readHouse wsX3_stop := goodIn_r _ [32, 5, 6, 7, 8, 9, 10, 11, 33, 18, 19, 20, 21, 50, 51, 52, 53, 54, 55, 56, 57] (by decide +kernel) (by decide +kernel)
set_option maxRecDepth 20000 in
theorem gX3_readHouse_X3_stop : GoodIn wsX3_readHouse (va_wsS RX3 52 yX3_stop wsX3_stop) := goodIn_app (goodIn_of _ (by decide +kernel)) ggX3_readHouse_X3_stop
set_option maxRecDepth 20000 in
theorem ggX3_readHouse_X8_addHouse : GoodIn wsX3_readHouse wsX8_addHouse := goodIn_r _ [37, 27, 28, 29, 38, 39, 40, 41, 42, 43, 44, 45, 46, 47, 48, 49] (by decide +kernel) (by decide +kernel)
set_option maxRecDepth 20000 in
theorem gX3_readHouse_X8_addHouse : GoodIn wsX3_readHouse (wsV RX3 67 RX8 yX8_addHouse wsX8_addHouse) := goodIn_app (goodIn_of _ (by decide +kernel)) ggX3_readHouse_X8_addHouse
theorem dX3_readHouse_0 : decode cX3_readHouse 0 = .ok (.aload_n 1, 1) := by decide +kernel
theorem dX3_readHouse_1 : decode cX3_readHouse 1 = .ok (.getfield 60, 3) := by decide +kernel
theorem dX3_readHouse_4 : decode cX3_readHouse 4 = .ok (.bipush 8, 2) := by decide +kernel
theorem dX3_readHouse_6 : decode cX3_readHouse 6 = .ok (.if_icmp .lt 5, 3) := by decide +kernel
theorem dX3_readHouse_9 : decode cX3_readHouse 9 = .ok (.iconst 0, 1) := by decide +kernel
theorem dX3_readHouse_10 : decode cX3_readHouse 10 = .ok (.ireturn, 1) := by decide +kernel
theorem dX3_readHouse_11 : decode cX3_readHouse 11 = .ok (.aload_n 0, 1) := by decide +kernel
theorem dX3_readHouse_12 : decode cX3_readHouse 12 = .ok (.iconst 0, 1) := by decide +kernel
theorem dX3_readHouse_13 : decode cX3_readHouse 13 = .ok (.bipush 7, 2) := by decide +kernel
theorem dX3_readHouse_15 : decode cX3_readHouse 15 = .ok (.invokestatic 48, 3) := by decide +kernel
theorem dX3_readHouse_18 : decode cX3_readHouse 18 = .ok (.istore_n 2, 1) := by decide +kernel
theorem dX3_readHouse_19 : decode cX3_readHouse 19 = .ok (.iload_n 2, 1) := by decide +kernel
theorem dX3_readHouse_20 : decode cX3_readHouse 20 = .ok (.bipush (-9), 2) := by decide +kernel
theorem dX3_readHouse_22 : decode cX3_readHouse 22 = .ok (.if_icmp .ne 5, 3) := by decide +kernel
theorem dX3_readHouse_25 : decode cX3_readHouse 25 = .ok (.iconst 0, 1) := by decide +kernel
theorem dX3_readHouse_26 : decode cX3_readHouse 26 = .ok (.ireturn, 1) := by decide +kernel
theorem dX3_readHouse_27 : decode cX3_readHouse 27 = .ok (.aload_n 0, 1) := by decide +kernel
theorem dX3_readHouse_28 : decode cX3_readHouse 28 = .ok (.iconst 0, 1) := by decide +kernel
theorem dX3_readHouse_29 : decode cX3_readHouse 29 = .ok (.bipush 7, 2) := by decide +kernel
theorem dX3_readHouse_31 : decode cX3_readHouse 31 = .ok (.invokestatic 48, 3) := by decide +kernel
theorem dX3_readHouse_34 : decode cX3_readHouse 34 = .ok (.istore_n 3, 1) := by decide +kernel
theorem dX3_readHouse_35 : decode cX3_readHouse 35 = .ok (.iload_n 3, 1) := by decide +kernel
theorem dX3_readHouse_36 : decode cX3_readHouse 36 = .ok (.bipush (-9), 2) := by decide +kernel
theorem dX3_readHouse_38 : decode cX3_readHouse 38 = .ok (.if_icmp .eq 19, 3) := by decide +kernel
theorem dX3_readHouse_41 : decode cX3_readHouse 41 = .ok (.aload_n 1, 1) := by decide +kernel
theorem dX3_readHouse_42 : decode cX3_readHouse 42 = .ok (.iload_n 2, 1) := by decide +kernel
theorem dX3_readHouse_43 : decode cX3_readHouse 43 = .ok (.iload_n 3, 1) := by decide +kernel
theorem dX3_readHouse_44 : decode cX3_readHouse 44 = .ok (.invokevirtual 63, 3) := by decide +kernel
theorem dX3_readHouse_47 : decode cX3_readHouse 47 = .ok (.ifCond .ne 10, 3) := by decide +kernel
theorem dX3_readHouse_50 : decode cX3_readHouse 50 = .ok (.aload_n 0, 1) := by decide +kernel
theorem dX3_readHouse_51 : decode cX3_readHouse 51 = .ok (.invokestatic 52, 3) := by decide +kernel
theorem dX3_readHouse_54 : decode cX3_readHouse 54 = .ok (.ifCond .ne 5, 3) := by decide +kernel
theorem dX3_readHouse_57 : decode cX3_readHouse 57 = .ok (.iconst 0, 1) := by decide +kernel
theorem dX3_readHouse_58 : decode cX3_readHouse 58 = .ok (.ireturn, 1) := by decide +kernel
theorem dX3_readHouse_59 : decode cX3_readHouse 59 = .ok (.aload_n 1, 1) := by decide +kernel
theorem dX3_readHouse_60 : decode cX3_readHouse 60 = .ok (.iload_n 2, 1) := by decide +kernel
theorem dX3_readHouse_61 : decode cX3_readHouse 61 = .ok (.iload_n 3, 1) := by decide +kernel
theorem dX3_readHouse_62 : decode cX3_readHouse 62 = .ok (.invokevirtual 67, 3) := by decide +kernel
theorem dX3_readHouse_65 : decode cX3_readHouse 65 = .ok (.iconst 1, 1) := by decide +kernel
theorem dX3_readHouse_66 : decode cX3_readHouse 66 = .ok (.ireturn, 1) := by decide +kernel
set_option maxRecDepth 20000 in
theorem ggX3_readRoof_X3_number : GoodIn wsX3_readRoof wsX3_number := goodIn_r _ [4, 5, 6, 7, 8, 9, 10, 11, 12, 13, 14, 15, 16, 17, 18, 19, 20, 21, 47, 48, 49, 50, 51, 52, 53, 54] (by decide +kernel) (by decide +kernel)
set_option maxRecDepth 20000 in
theorem gX3_readRoof_X3_number : GoodIn wsX3_readRoof (va_wsS RX3 48 yX3_number wsX3_number) := goodIn_app (goodIn_of _ (by decide +kernel)) ggX3_readRoof_X3_number
set_option maxRecDepth 20000 in
theorem ggX3_readRoof_X8_isBoundElse : GoodIn wsX3_readRoof wsX8_isBoundElse := goodIn_r _ [26, 27, 28, 29, 30, 25, 31, 32, 37, 38, 39, 40, 41, 42, 43, 44, 45, 46] (by decide +kernel) (by decide +kernel)
set_option maxRecDepth 20000 in
theorem gX3_readRoof_X8_isBoundElse : GoodIn wsX3_readRoof (wsV RX3 70 RX8 yX8_isBoundElse wsX8_isBoundElse) := goodIn_app (goodIn_of _ (by decide +kernel)) ggX3_readRoof_X8_isBoundElse
set_option maxRecDepth 20000 in
theorem ggX3_readRoof_X3_stop : GoodIn wsX3_readRoof wsX3_stop := goodIn_r _ [35, 5, 6, 7, 8, 9, 10, 11, 36, 18, 19, 20, 21, 47, 48, 49, 50, 51, 52, 53, 54] (by decide +kernel) (by decide +kernel)
set_option maxRecDepth 20000 in
theorem gX3_readRoof_X3_stop : GoodIn wsX3_readRoof (va_wsS RX3 52 yX3_stop wsX3_stop) := goodIn_app (goodIn_of _ (by decide +kernel)) ggX3_readRoof_X3_stop
theorem dX3_readRoof_0 : decode cX3_readRoof 0 = .ok (.aload_n 0, 1) := by decide +kernel
theorem dX3_readRoof_1 : decode cX3_readRoof 1 = .ok (.iconst 0, 1) := by decide +kernel
theorem dX3_readRoof_2 : decode cX3_readRoof 2 = .ok (.aload_n 1, 1) := by decide +kernel
theorem dX3_readRoof_3 : decode cX3_readRoof 3 = .ok (.getfield 60, 3) := by decide +kernel
theorem dX3_readRoof_6 : decode cX3_readRoof 6 = .ok (.iconst 1, 1) := by decide +kernel
theorem dX3_readRoof_7 : decode cX3_readRoof 7 = .ok (.isub, 1) := by decide +kernel
theorem dX3_readRoof_8 : decode cX3_readRoof 8 = .ok (.invokestatic 48, 3) := by decide +kernel
theorem dX3_readRoof_11 : decode cX3_readRoof 11 = .ok (.istore_n 2, 1) := by decide +kernel
theorem dX3_readRoof_12 : decode cX3_readRoof 12 = .ok (.iload_n 2, 1) := by decide +kernel
theorem dX3_readRoof_13 : decode cX3_readRoof 13 = .ok (.bipush (-9), 2) := by decide +kernel
theorem dX3_readRoof_15 : decode cX3_readRoof 15 = .ok (.if_icmp .ne 5, 3) := by decide +kernel
theorem dX3_readRoof_18 : decode cX3_readRoof 18 = .ok (.iconst 0, 1) := by decide +kernel
theorem dX3_readRoof_19 : decode cX3_readRoof 19 = .ok (.ireturn, 1) := by decide +kernel
theorem dX3_readRoof_20 : decode cX3_readRoof 20 = .ok (.aload_n 0, 1) := by decide +kernel
theorem dX3_readRoof_21 : decode cX3_readRoof 21 = .ok (.iconst 0, 1) := by decide +kernel
theorem dX3_readRoof_22 : decode cX3_readRoof 22 = .ok (.aload_n 1, 1) := by decide +kernel
theorem dX3_readRoof_23 : decode cX3_readRoof 23 = .ok (.getfield 42, 3) := by decide +kernel
theorem dX3_readRoof_26 : decode cX3_readRoof 26 = .ok (.iconst 1, 1) := by decide +kernel
theorem dX3_readRoof_27 : decode cX3_readRoof 27 = .ok (.isub, 1) := by decide +kernel
theorem dX3_readRoof_28 : decode cX3_readRoof 28 = .ok (.invokestatic 48, 3) := by decide +kernel
theorem dX3_readRoof_31 : decode cX3_readRoof 31 = .ok (.istore_n 3, 1) := by decide +kernel
theorem dX3_readRoof_32 : decode cX3_readRoof 32 = .ok (.iload_n 3, 1) := by decide +kernel
theorem dX3_readRoof_33 : decode cX3_readRoof 33 = .ok (.bipush (-9), 2) := by decide +kernel
theorem dX3_readRoof_35 : decode cX3_readRoof 35 = .ok (.if_icmp .eq 19, 3) := by decide +kernel
theorem dX3_readRoof_38 : decode cX3_readRoof 38 = .ok (.aload_n 1, 1) := by decide +kernel
theorem dX3_readRoof_39 : decode cX3_readRoof 39 = .ok (.iload_n 2, 1) := by decide +kernel
theorem dX3_readRoof_40 : decode cX3_readRoof 40 = .ok (.iload_n 3, 1) := by decide +kernel
theorem dX3_readRoof_41 : decode cX3_readRoof 41 = .ok (.invokevirtual 70, 3) := by decide +kernel
theorem dX3_readRoof_44 : decode cX3_readRoof 44 = .ok (.ifCond .ne 10, 3) := by decide +kernel
theorem dX3_readRoof_47 : decode cX3_readRoof 47 = .ok (.aload_n 0, 1) := by decide +kernel
theorem dX3_readRoof_48 : decode cX3_readRoof 48 = .ok (.invokestatic 52, 3) := by decide +kernel
theorem dX3_readRoof_51 : decode cX3_readRoof 51 = .ok (.ifCond .ne 5, 3) := by decide +kernel
theorem dX3_readRoof_54 : decode cX3_readRoof 54 = .ok (.iconst 0, 1) := by decide +kernel
theorem dX3_readRoof_55 : decode cX3_readRoof 55 = .ok (.ireturn, 1) := by decide +kernel
theorem dX3_readRoof_56 : decode cX3_readRoof 56 = .ok (.aload_n 1, 1) := by decide +kernel
theorem dX3_readRoof_57 : decode cX3_readRoof 57 = .ok (.getfield 74, 3) := by decide +kernel
theorem dX3_readRoof_60 : decode cX3_readRoof 60 = .ok (.iload_n 2, 1) := by decide +kernel
theorem dX3_readRoof_61 : decode cX3_readRoof 61 = .ok (.iload_n 3, 1) := by decide +kernel
theorem dX3_readRoof_62 : decode cX3_readRoof 62 = .ok (.iastore, 1) := by decide +kernel
theorem dX3_readRoof_63 : decode cX3_readRoof 63 = .ok (.iconst 1, 1) := by decide +kernel
theorem dX3_readRoof_64 : decode cX3_readRoof 64 = .ok (.ireturn, 1) := by decide +kernel
set_option maxRecDepth 20000 in
theorem ggX3_readBound_X3_number : GoodIn wsX3_readBound wsX3_number := goodIn_r _ [4, 5, 6, 7, 8, 9, 10, 11, 12, 13, 14, 15, 16, 17, 18, 19, 20, 21, 36, 37, 38, 39, 40, 41, 42, 43] (by decide +kernel) (by decide +kernel)
set_option maxRecDepth 20000 in
theorem gX3_readBound_X3_number : GoodIn wsX3_readBound (va_wsS RX3 48 yX3_number wsX3_number) := goodIn_app (goodIn_of _ (by decide +kernel)) ggX3_readBound_X3_number
set_option maxRecDepth 20000 in
theorem ggX3_readBound_X3_stop : GoodIn wsX3_readBound wsX3_stop := goodIn_r _ [24, 5, 6, 7, 8, 9, 10, 11, 25, 18, 19, 20, 21, 36, 37, 38, 39, 40, 41, 42, 43] (by decide +kernel) (by decide +kernel)
set_option maxRecDepth 20000 in
theorem gX3_readBound_X3_stop : GoodIn wsX3_readBound (va_wsS RX3 52 yX3_stop wsX3_stop) := goodIn_app (goodIn_of _ (by decide +kernel)) ggX3_readBound_X3_stop
theorem dX3_readBound_0 : decode cX3_readBound 0 = .ok (.aload_n 0, 1) := by decide +kernel
theorem dX3_readBound_1 : decode cX3_readBound 1 = .ok (.iconst 0, 1) := by decide +kernel
theorem dX3_readBound_2 : decode cX3_readBound 2 = .ok (.aload_n 1, 1) := by decide +kernel
theorem dX3_readBound_3 : decode cX3_readBound 3 = .ok (.getfield 60, 3) := by decide +kernel
theorem dX3_readBound_6 : decode cX3_readBound 6 = .ok (.iconst 1, 1) := by decide +kernel
theorem dX3_readBound_7 : decode cX3_readBound 7 = .ok (.isub, 1) := by decide +kernel
theorem dX3_readBound_8 : decode cX3_readBound 8 = .ok (.invokestatic 48, 3) := by decide +kernel
theorem dX3_readBound_11 : decode cX3_readBound 11 = .ok (.istore_n 2, 1) := by decide +kernel
theorem dX3_readBound_12 : decode cX3_readBound 12 = .ok (.iload_n 2, 1) := by decide +kernel
theorem dX3_readBound_13 : decode cX3_readBound 13 = .ok (.bipush (-9), 2) := by decide +kernel
theorem dX3_readBound_15 : decode cX3_readBound 15 = .ok (.if_icmp .eq 14, 3) := by decide +kernel
theorem dX3_readBound_18 : decode cX3_readBound 18 = .ok (.aload_n 1, 1) := by decide +kernel
theorem dX3_readBound_19 : decode cX3_readBound 19 = .ok (.getfield 78, 3) := by decide +kernel
theorem dX3_readBound_22 : decode cX3_readBound 22 = .ok (.iload_n 2, 1) := by decide +kernel
theorem dX3_readBound_23 : decode cX3_readBound 23 = .ok (.iaload, 1) := by decide +kernel
theorem dX3_readBound_24 : decode cX3_readBound 24 = .ok (.bipush (-9), 2) := by decide +kernel
theorem dX3_readBound_26 : decode cX3_readBound 26 = .ok (.if_icmp .eq 5, 3) := by decide +kernel
theorem dX3_readBound_29 : decode cX3_readBound 29 = .ok (.iconst 0, 1) := by decide +kernel
theorem dX3_readBound_30 : decode cX3_readBound 30 = .ok (.ireturn, 1) := by decide +kernel
theorem dX3_readBound_31 : decode cX3_readBound 31 = .ok (.aload_n 0, 1) := by decide +kernel
theorem dX3_readBound_32 : decode cX3_readBound 32 = .ok (.iconst 0, 1) := by decide +kernel
theorem dX3_readBound_33 : decode cX3_readBound 33 = .ok (.aload_n 1, 1) := by decide +kernel
theorem dX3_readBound_34 : decode cX3_readBound 34 = .ok (.getfield 42, 3) := by decide +kernel
theorem dX3_readBound_37 : decode cX3_readBound 37 = .ok (.iconst 1, 1) := by decide +kernel
theorem dX3_readBound_38 : decode cX3_readBound 38 = .ok (.isub, 1) := by decide +kernel
theorem dX3_readBound_39 : decode cX3_readBound 39 = .ok (.invokestatic 48, 3) := by decide +kernel
theorem dX3_readBound_42 : decode cX3_readBound 42 = .ok (.istore_n 3, 1) := by decide +kernel
theorem dX3_readBound_43 : decode cX3_readBound 43 = .ok (.iload_n 3, 1) := by decide +kernel
theorem dX3_readBound_44 : decode cX3_readBound 44 = .ok (.bipush (-9), 2) := by decide +kernel
theorem dX3_readBound_46 : decode cX3_readBound 46 = .ok (.if_icmp .eq 10, 3) := by decide +kernel
theorem dX3_readBound_49 : decode cX3_readBound 49 = .ok (.aload_n 0, 1) := by decide +kernel
theorem dX3_readBound_50 : decode cX3_readBound 50 = .ok (.invokestatic 52, 3) := by decide +kernel
theorem dX3_readBound_53 : decode cX3_readBound 53 = .ok (.ifCond .ne 5, 3) := by decide +kernel
theorem dX3_readBound_56 : decode cX3_readBound 56 = .ok (.iconst 0, 1) := by decide +kernel
theorem dX3_readBound_57 : decode cX3_readBound 57 = .ok (.ireturn, 1) := by decide +kernel
theorem dX3_readBound_58 : decode cX3_readBound 58 = .ok (.aload_n 1, 1) := by decide +kernel
theorem dX3_readBound_59 : decode cX3_readBound 59 = .ok (.getfield 78, 3) := by decide +kernel
theorem dX3_readBound_62 : decode cX3_readBound 62 = .ok (.iload_n 2, 1) := by decide +kernel
theorem dX3_readBound_63 : decode cX3_readBound 63 = .ok (.iload_n 3, 1) := by decide +kernel
theorem dX3_readBound_64 : decode cX3_readBound 64 = .ok (.iastore, 1) := by decide +kernel
theorem dX3_readBound_65 : decode cX3_readBound 65 = .ok (.aload_n 1, 1) := by decide +kernel
theorem dX3_readBound_66 : decode cX3_readBound 66 = .ok (.getfield 74, 3) := by decide +kernel
theorem dX3_readBound_69 : decode cX3_readBound 69 = .ok (.iload_n 2, 1) := by decide +kernel
theorem dX3_readBound_70 : decode cX3_readBound 70 = .ok (.iload_n 3, 1) := by decide +kernel
theorem dX3_readBound_71 : decode cX3_readBound 71 = .ok (.iastore, 1) := by decide +kernel
theorem dX3_readBound_72 : decode cX3_readBound 72 = .ok (.iconst 1, 1) := by decide +kernel
theorem dX3_readBound_73 : decode cX3_readBound 73 = .ok (.ireturn, 1) := by decide +kernel
set_option maxRecDepth 20000 in
theorem ggX3_readWind_X7_advance : GoodIn wsX3_readWind wsX7_advance := goodIn_r _ [5, 6, 7, 27, 28, 29, 30, 31, 32, 33, 34] (by decide +kernel) (by decide +kernel)
set_option maxRecDepth 20000 in
theorem gX3_readWind_X7_advance : GoodIn wsX3_readWind (wsV RX3 24 RX7 yX7_advance wsX7_advance) := goodIn_app (goodIn_of _ (by decide +kernel)) ggX3_readWind_X7_advance
set_option maxRecDepth 20000 in
theorem ggX3_readWind_X7_kind : GoodIn wsX3_readWind wsX7_kind := goodIn_r _ [11, 6, 7, 12, 27, 28, 29, 30, 31, 32, 33, 34] (by decide +kernel) (by decide +kernel)
set_option maxRecDepth 20000 in
theorem gX3_readWind_X7_kind : GoodIn wsX3_readWind (wsV RX3 9 RX7 yX7_kind wsX7_kind) := goodIn_app (goodIn_of _ (by decide +kernel)) ggX3_readWind_X7_kind
set_option maxRecDepth 20000 in
theorem ggX3_readWind_X3_stop : GoodIn wsX3_readWind wsX3_stop := goodIn_r _ [16, 1, 2, 3, 4, 5, 6, 7, 8, 9, 10, 11, 12, 27, 28, 29, 30, 31, 32, 33, 34] (by decide +kernel) (by decide +kernel)
set_option maxRecDepth 20000 in
theorem gX3_readWind_X3_stop : GoodIn wsX3_readWind (va_wsS RX3 52 yX3_stop wsX3_stop) := goodIn_app (goodIn_of _ (by decide +kernel)) ggX3_readWind_X3_stop
theorem dX3_readWind_0 : decode cX3_readWind 0 = .ok (.aload_n 1, 1) := by decide +kernel
theorem dX3_readWind_1 : decode cX3_readWind 1 = .ok (.getfield 81, 3) := by decide +kernel
theorem dX3_readWind_4 : decode cX3_readWind 4 = .ok (.ifCond .eq 5, 3) := by decide +kernel
theorem dX3_readWind_7 : decode cX3_readWind 7 = .ok (.iconst 0, 1) := by decide +kernel
theorem dX3_readWind_8 : decode cX3_readWind 8 = .ok (.ireturn, 1) := by decide +kernel
theorem dX3_readWind_9 : decode cX3_readWind 9 = .ok (.aload_n 0, 1) := by decide +kernel
theorem dX3_readWind_10 : decode cX3_readWind 10 = .ok (.invokevirtual 24, 3) := by decide +kernel
theorem dX3_readWind_13 : decode cX3_readWind 13 = .ok (.aload_n 0, 1) := by decide +kernel
theorem dX3_readWind_14 : decode cX3_readWind 14 = .ok (.invokevirtual 9, 3) := by decide +kernel
theorem dX3_readWind_17 : decode cX3_readWind 17 = .ok (.bipush 9, 2) := by decide +kernel
theorem dX3_readWind_19 : decode cX3_readWind 19 = .ok (.isub, 1) := by decide +kernel
theorem dX3_readWind_20 : decode cX3_readWind 20 = .ok (.istore_n 2, 1) := by decide +kernel
theorem dX3_readWind_21 : decode cX3_readWind 21 = .ok (.iload_n 2, 1) := by decide +kernel
theorem dX3_readWind_22 : decode cX3_readWind 22 = .ok (.ifCond .lt 15, 3) := by decide +kernel
theorem dX3_readWind_25 : decode cX3_readWind 25 = .ok (.iload_n 2, 1) := by decide +kernel
theorem dX3_readWind_26 : decode cX3_readWind 26 = .ok (.iconst 4, 1) := by decide +kernel
theorem dX3_readWind_27 : decode cX3_readWind 27 = .ok (.if_icmp .gt 10, 3) := by decide +kernel
theorem dX3_readWind_30 : decode cX3_readWind 30 = .ok (.aload_n 0, 1) := by decide +kernel
theorem dX3_readWind_31 : decode cX3_readWind 31 = .ok (.invokestatic 52, 3) := by decide +kernel
theorem dX3_readWind_34 : decode cX3_readWind 34 = .ok (.ifCond .ne 5, 3) := by decide +kernel
theorem dX3_readWind_37 : decode cX3_readWind 37 = .ok (.iconst 0, 1) := by decide +kernel
theorem dX3_readWind_38 : decode cX3_readWind 38 = .ok (.ireturn, 1) := by decide +kernel
theorem dX3_readWind_39 : decode cX3_readWind 39 = .ok (.aload_n 1, 1) := by decide +kernel
theorem dX3_readWind_40 : decode cX3_readWind 40 = .ok (.iload_n 2, 1) := by decide +kernel
theorem dX3_readWind_41 : decode cX3_readWind 41 = .ok (.putfield 85, 3) := by decide +kernel
theorem dX3_readWind_44 : decode cX3_readWind 44 = .ok (.aload_n 1, 1) := by decide +kernel
theorem dX3_readWind_45 : decode cX3_readWind 45 = .ok (.iconst 1, 1) := by decide +kernel
theorem dX3_readWind_46 : decode cX3_readWind 46 = .ok (.putfield 81, 3) := by decide +kernel
theorem dX3_readWind_49 : decode cX3_readWind 49 = .ok (.iconst 1, 1) := by decide +kernel
theorem dX3_readWind_50 : decode cX3_readWind 50 = .ok (.ireturn, 1) := by decide +kernel
set_option maxRecDepth 20000 in
theorem ggX3_number_X7_advance : GoodIn wsX3_number wsX7_advance := goodIn_r _ [5, 6, 7, 18, 19, 20, 21, 22, 23, 24, 25] (by decide +kernel) (by decide +kernel)
set_option maxRecDepth 20000 in
theorem gX3_number_X7_advance : GoodIn wsX3_number (wsV RX3 24 RX7 yX7_advance wsX7_advance) := goodIn_app (goodIn_of _ (by decide +kernel)) ggX3_number_X7_advance
set_option maxRecDepth 20000 in
theorem ggX3_number_X7_numberFrom : GoodIn wsX3_number wsX7_numberFrom := goodIn_r _ [11, 12, 6, 13, 14, 15, 4, 16, 7, 17, 18, 19, 20, 21, 22, 23, 24, 25] (by decide +kernel) (by decide +kernel)
set_option maxRecDepth 20000 in
theorem gX3_number_X7_numberFrom : GoodIn wsX3_number (wsV RX3 88 RX7 yX7_numberFrom wsX7_numberFrom) := goodIn_app (goodIn_of _ (by decide +kernel)) ggX3_number_X7_numberFrom
theorem dX3_number_0 : decode cX3_number 0 = .ok (.aload_n 0, 1) := by decide +kernel
theorem dX3_number_1 : decode cX3_number 1 = .ok (.invokevirtual 24, 3) := by decide +kernel
theorem dX3_number_4 : decode cX3_number 4 = .ok (.aload_n 0, 1) := by decide +kernel
theorem dX3_number_5 : decode cX3_number 5 = .ok (.iload_n 1, 1) := by decide +kernel
theorem dX3_number_6 : decode cX3_number 6 = .ok (.iload_n 2, 1) := by decide +kernel
theorem dX3_number_7 : decode cX3_number 7 = .ok (.invokevirtual 88, 3) := by decide +kernel
theorem dX3_number_10 : decode cX3_number 10 = .ok (.ireturn, 1) := by decide +kernel
set_option maxRecDepth 20000 in
theorem ggX3_stop_X7_advance : GoodIn wsX3_stop wsX7_advance := goodIn_r _ [5, 6, 7, 13, 14, 15, 16, 17, 18, 19, 20] (by decide +kernel) (by decide +kernel)
set_option maxRecDepth 20000 in
theorem gX3_stop_X7_advance : GoodIn wsX3_stop (wsV RX3 24 RX7 yX7_advance wsX7_advance) := goodIn_app (goodIn_of _ (by decide +kernel)) ggX3_stop_X7_advance
set_option maxRecDepth 20000 in
theorem ggX3_stop_X7_kind : GoodIn wsX3_stop wsX7_kind := goodIn_r _ [11, 6, 7, 12, 13, 14, 15, 16, 17, 18, 19, 20] (by decide +kernel) (by decide +kernel)
set_option maxRecDepth 20000 in
theorem gX3_stop_X7_kind : GoodIn wsX3_stop (wsV RX3 9 RX7 yX7_kind wsX7_kind) := goodIn_app (goodIn_of _ (by decide +kernel)) ggX3_stop_X7_kind
theorem dX3_stop_0 : decode cX3_stop 0 = .ok (.aload_n 0, 1) := by decide +kernel
theorem dX3_stop_1 : decode cX3_stop 1 = .ok (.invokevirtual 24, 3) := by decide +kernel
theorem dX3_stop_4 : decode cX3_stop 4 = .ok (.aload_n 0, 1) := by decide +kernel
theorem dX3_stop_5 : decode cX3_stop 5 = .ok (.invokevirtual 9, 3) := by decide +kernel
theorem dX3_stop_8 : decode cX3_stop 8 = .ok (.iconst 2, 1) := by decide +kernel
theorem dX3_stop_9 : decode cX3_stop 9 = .ok (.if_icmp .ne 7, 3) := by decide +kernel
theorem dX3_stop_12 : decode cX3_stop 12 = .ok (.iconst 1, 1) := by decide +kernel
theorem dX3_stop_13 : decode cX3_stop 13 = .ok (.goto 4, 3) := by decide +kernel
theorem dX3_stop_16 : decode cX3_stop 16 = .ok (.iconst 0, 1) := by decide +kernel
theorem dX3_stop_17 : decode cX3_stop 17 = .ok (.ireturn, 1) := by decide +kernel
theorem dX4_init_0 : decode cX4_init 0 = .ok (.aload_n 0, 1) := by decide +kernel
theorem dX4_init_1 : decode cX4_init 1 = .ok (.invokespecial 3, 3) := by decide +kernel
theorem dX4_init_4 : decode cX4_init 4 = .ok (.aload_n 0, 1) := by decide +kernel
theorem dX4_init_5 : decode cX4_init 5 = .ok (.bipush 8, 2) := by decide +kernel
theorem dX4_init_7 : decode cX4_init 7 = .ok (.newarray .int, 2) := by decide +kernel
theorem dX4_init_9 : decode cX4_init 9 = .ok (.putfield 9, 3) := by decide +kernel
theorem dX4_init_12 : decode cX4_init 12 = .ok (.aload_n 0, 1) := by decide +kernel
theorem dX4_init_13 : decode cX4_init 13 = .ok (.bipush 8, 2) := by decide +kernel
theorem dX4_init_15 : decode cX4_init 15 = .ok (.newarray .int, 2) := by decide +kernel
theorem dX4_init_17 : decode cX4_init 17 = .ok (.putfield 15, 3) := by decide +kernel
theorem dX4_init_20 : decode cX4_init 20 = .ok (.aload_n 0, 1) := by decide +kernel
theorem dX4_init_21 : decode cX4_init 21 = .ok (.bipush 8, 2) := by decide +kernel
theorem dX4_init_23 : decode cX4_init 23 = .ok (.newarray .int, 2) := by decide +kernel
theorem dX4_init_25 : decode cX4_init 25 = .ok (.putfield 18, 3) := by decide +kernel
theorem dX4_init_28 : decode cX4_init 28 = .ok (.aload_n 0, 1) := by decide +kernel
theorem dX4_init_29 : decode cX4_init 29 = .ok (.bipush 8, 2) := by decide +kernel
theorem dX4_init_31 : decode cX4_init 31 = .ok (.newarray .int, 2) := by decide +kernel
theorem dX4_init_33 : decode cX4_init 33 = .ok (.putfield 21, 3) := by decide +kernel
theorem dX4_init_36 : decode cX4_init 36 = .ok (.aload_n 0, 1) := by decide +kernel
theorem dX4_init_37 : decode cX4_init 37 = .ok (.bipush 32, 2) := by decide +kernel
theorem dX4_init_39 : decode cX4_init 39 = .ok (.newarray .int, 2) := by decide +kernel
theorem dX4_init_41 : decode cX4_init 41 = .ok (.putfield 24, 3) := by decide +kernel
theorem dX4_init_44 : decode cX4_init 44 = .ok (.aload_n 0, 1) := by decide +kernel
theorem dX4_init_45 : decode cX4_init 45 = .ok (.bipush 9, 2) := by decide +kernel
theorem dX4_init_47 : decode cX4_init 47 = .ok (.newarray .int, 2) := by decide +kernel
theorem dX4_init_49 : decode cX4_init 49 = .ok (.putfield 27, 3) := by decide +kernel
theorem dX4_init_52 : decode cX4_init 52 = .ok (.return_, 1) := by decide +kernel
set_option maxRecDepth 20000 in
theorem ggX4_prepare_X8_near : GoodIn wsX4_prepare wsX8_near := goodIn_r _ [10, 11, 12, 13, 9, 14, 15, 16, 17, 18, 19, 20, 21, 22, 23, 24, 25, 26, 27, 28, 29, 30, 31, 32, 33, 34, 35] (by decide +kernel) (by decide +kernel)
set_option maxRecDepth 20000 in
theorem gX4_prepare_X8_near : GoodIn wsX4_prepare (wsV RX4 41 RX8 yX8_near wsX8_near) := goodIn_app (goodIn_of _ (by decide +kernel)) ggX4_prepare_X8_near
theorem dX4_prepare_0 : decode cX4_prepare 0 = .ok (.aload_n 0, 1) := by decide +kernel
theorem dX4_prepare_1 : decode cX4_prepare 1 = .ok (.aload_n 1, 1) := by decide +kernel
theorem dX4_prepare_2 : decode cX4_prepare 2 = .ok (.getfield 30, 3) := by decide +kernel
theorem dX4_prepare_5 : decode cX4_prepare 5 = .ok (.putfield 36, 3) := by decide +kernel
theorem dX4_prepare_8 : decode cX4_prepare 8 = .ok (.aload_n 0, 1) := by decide +kernel
theorem dX4_prepare_9 : decode cX4_prepare 9 = .ok (.aload_n 1, 1) := by decide +kernel
theorem dX4_prepare_10 : decode cX4_prepare 10 = .ok (.getfield 37, 3) := by decide +kernel
theorem dX4_prepare_13 : decode cX4_prepare 13 = .ok (.putfield 40, 3) := by decide +kernel
theorem dX4_prepare_16 : decode cX4_prepare 16 = .ok (.iconst 0, 1) := by decide +kernel
theorem dX4_prepare_17 : decode cX4_prepare 17 = .ok (.istore_n 3, 1) := by decide +kernel
theorem dX4_prepare_18 : decode cX4_prepare 18 = .ok (.iload_n 3, 1) := by decide +kernel
theorem dX4_prepare_19 : decode cX4_prepare 19 = .ok (.aload_n 0, 1) := by decide +kernel
theorem dX4_prepare_20 : decode cX4_prepare 20 = .ok (.getfield 36, 3) := by decide +kernel
theorem dX4_prepare_23 : decode cX4_prepare 23 = .ok (.if_icmp .ge 57, 3) := by decide +kernel
theorem dX4_prepare_26 : decode cX4_prepare 26 = .ok (.aload_n 0, 1) := by decide +kernel
theorem dX4_prepare_27 : decode cX4_prepare 27 = .ok (.getfield 9, 3) := by decide +kernel
theorem dX4_prepare_30 : decode cX4_prepare 30 = .ok (.iload_n 3, 1) := by decide +kernel
theorem dX4_prepare_31 : decode cX4_prepare 31 = .ok (.aload_n 1, 1) := by decide +kernel
theorem dX4_prepare_32 : decode cX4_prepare 32 = .ok (.iload_n 3, 1) := by decide +kernel
theorem dX4_prepare_33 : decode cX4_prepare 33 = .ok (.iload_n 2, 1) := by decide +kernel
theorem dX4_prepare_34 : decode cX4_prepare 34 = .ok (.invokevirtual 41, 3) := by decide +kernel
theorem dX4_prepare_37 : decode cX4_prepare 37 = .ok (.iastore, 1) := by decide +kernel
theorem dX4_prepare_38 : decode cX4_prepare 38 = .ok (.aload_n 0, 1) := by decide +kernel
theorem dX4_prepare_39 : decode cX4_prepare 39 = .ok (.getfield 15, 3) := by decide +kernel
theorem dX4_prepare_42 : decode cX4_prepare 42 = .ok (.iload_n 3, 1) := by decide +kernel
theorem dX4_prepare_43 : decode cX4_prepare 43 = .ok (.aload_n 1, 1) := by decide +kernel
theorem dX4_prepare_44 : decode cX4_prepare 44 = .ok (.getfield 44, 3) := by decide +kernel
theorem dX4_prepare_47 : decode cX4_prepare 47 = .ok (.iload_n 3, 1) := by decide +kernel
theorem dX4_prepare_48 : decode cX4_prepare 48 = .ok (.iaload, 1) := by decide +kernel
theorem dX4_prepare_49 : decode cX4_prepare 49 = .ok (.bipush (-9), 2) := by decide +kernel
theorem dX4_prepare_51 : decode cX4_prepare 51 = .ok (.if_icmp .ne 14, 3) := by decide +kernel
theorem dX4_prepare_54 : decode cX4_prepare 54 = .ok (.iconst 1, 1) := by decide +kernel
theorem dX4_prepare_55 : decode cX4_prepare 55 = .ok (.aload_n 0, 1) := by decide +kernel
theorem dX4_prepare_56 : decode cX4_prepare 56 = .ok (.getfield 40, 3) := by decide +kernel
theorem dX4_prepare_59 : decode cX4_prepare 59 = .ok (.ishl, 1) := by decide +kernel
theorem dX4_prepare_60 : decode cX4_prepare 60 = .ok (.iconst 1, 1) := by decide +kernel
theorem dX4_prepare_61 : decode cX4_prepare 61 = .ok (.isub, 1) := by decide +kernel
theorem dX4_prepare_62 : decode cX4_prepare 62 = .ok (.goto 11, 3) := by decide +kernel
theorem dX4_prepare_65 : decode cX4_prepare 65 = .ok (.iconst 1, 1) := by decide +kernel
theorem dX4_prepare_66 : decode cX4_prepare 66 = .ok (.aload_n 1, 1) := by decide +kernel
theorem dX4_prepare_67 : decode cX4_prepare 67 = .ok (.getfield 44, 3) := by decide +kernel
theorem dX4_prepare_70 : decode cX4_prepare 70 = .ok (.iload_n 3, 1) := by decide +kernel
theorem dX4_prepare_71 : decode cX4_prepare 71 = .ok (.iaload, 1) := by decide +kernel
theorem dX4_prepare_72 : decode cX4_prepare 72 = .ok (.ishl, 1) := by decide +kernel
theorem dX4_prepare_73 : decode cX4_prepare 73 = .ok (.iastore, 1) := by decide +kernel
theorem dX4_prepare_74 : decode cX4_prepare 74 = .ok (.iinc 3 1, 3) := by decide +kernel
theorem dX4_prepare_77 : decode cX4_prepare 77 = .ok (.goto (-59), 3) := by decide +kernel
theorem dX4_prepare_80 : decode cX4_prepare 80 = .ok (.iconst 0, 1) := by decide +kernel
theorem dX4_prepare_81 : decode cX4_prepare 81 = .ok (.istore_n 3, 1) := by decide +kernel
theorem dX4_prepare_82 : decode cX4_prepare 82 = .ok (.iload_n 3, 1) := by decide +kernel
theorem dX4_prepare_83 : decode cX4_prepare 83 = .ok (.aload_n 0, 1) := by decide +kernel
theorem dX4_prepare_84 : decode cX4_prepare 84 = .ok (.getfield 24, 3) := by decide +kernel
theorem dX4_prepare_87 : decode cX4_prepare 87 = .ok (.arraylength, 1) := by decide +kernel
theorem dX4_prepare_88 : decode cX4_prepare 88 = .ok (.if_icmp .ge 16, 3) := by decide +kernel
theorem dX4_prepare_91 : decode cX4_prepare 91 = .ok (.aload_n 0, 1) := by decide +kernel
theorem dX4_prepare_92 : decode cX4_prepare 92 = .ok (.getfield 24, 3) := by decide +kernel
theorem dX4_prepare_95 : decode cX4_prepare 95 = .ok (.iload_n 3, 1) := by decide +kernel
theorem dX4_prepare_96 : decode cX4_prepare 96 = .ok (.iconst 0, 1) := by decide +kernel
theorem dX4_prepare_97 : decode cX4_prepare 97 = .ok (.iastore, 1) := by decide +kernel
theorem dX4_prepare_98 : decode cX4_prepare 98 = .ok (.iinc 3 1, 3) := by decide +kernel
theorem dX4_prepare_101 : decode cX4_prepare 101 = .ok (.goto (-19), 3) := by decide +kernel
theorem dX4_prepare_104 : decode cX4_prepare 104 = .ok (.return_, 1) := by decide +kernel
set_option maxRecDepth 20000 in
theorem ggX4_costPrices_X8_priceOf : GoodIn wsX4_costPrices wsX8_priceOf := goodIn_r _ [8, 9, 10, 11, 12, 7, 13, 14, 24, 25, 26, 27, 28, 29, 30, 31, 32, 33] (by decide +kernel) (by decide +kernel)
set_option maxRecDepth 20000 in
theorem gX4_costPrices_X8_priceOf : GoodIn wsX4_costPrices (wsV RX4 47 RX8 yX8_priceOf wsX8_priceOf) := goodIn_app (goodIn_of _ (by decide +kernel)) ggX4_costPrices_X8_priceOf
theorem dX4_costPrices_0 : decode cX4_costPrices 0 = .ok (.iconst 0, 1) := by decide +kernel
theorem dX4_costPrices_1 : decode cX4_costPrices 1 = .ok (.istore_n 2, 1) := by decide +kernel
theorem dX4_costPrices_2 : decode cX4_costPrices 2 = .ok (.iload_n 2, 1) := by decide +kernel
theorem dX4_costPrices_3 : decode cX4_costPrices 3 = .ok (.aload_n 0, 1) := by decide +kernel
theorem dX4_costPrices_4 : decode cX4_costPrices 4 = .ok (.getfield 36, 3) := by decide +kernel
theorem dX4_costPrices_7 : decode cX4_costPrices 7 = .ok (.if_icmp .ge 40, 3) := by decide +kernel
theorem dX4_costPrices_10 : decode cX4_costPrices 10 = .ok (.iconst 0, 1) := by decide +kernel
theorem dX4_costPrices_11 : decode cX4_costPrices 11 = .ok (.istore_n 3, 1) := by decide +kernel
theorem dX4_costPrices_12 : decode cX4_costPrices 12 = .ok (.iload_n 3, 1) := by decide +kernel
theorem dX4_costPrices_13 : decode cX4_costPrices 13 = .ok (.aload_n 0, 1) := by decide +kernel
theorem dX4_costPrices_14 : decode cX4_costPrices 14 = .ok (.getfield 40, 3) := by decide +kernel
theorem dX4_costPrices_17 : decode cX4_costPrices 17 = .ok (.if_icmp .ge 24, 3) := by decide +kernel
theorem dX4_costPrices_20 : decode cX4_costPrices 20 = .ok (.aload_n 0, 1) := by decide +kernel
theorem dX4_costPrices_21 : decode cX4_costPrices 21 = .ok (.getfield 24, 3) := by decide +kernel
theorem dX4_costPrices_24 : decode cX4_costPrices 24 = .ok (.iload_n 2, 1) := by decide +kernel
theorem dX4_costPrices_25 : decode cX4_costPrices 25 = .ok (.iconst 4, 1) := by decide +kernel
theorem dX4_costPrices_26 : decode cX4_costPrices 26 = .ok (.imul, 1) := by decide +kernel
theorem dX4_costPrices_27 : decode cX4_costPrices 27 = .ok (.iload_n 3, 1) := by decide +kernel
theorem dX4_costPrices_28 : decode cX4_costPrices 28 = .ok (.iadd, 1) := by decide +kernel
theorem dX4_costPrices_29 : decode cX4_costPrices 29 = .ok (.aload_n 1, 1) := by decide +kernel
theorem dX4_costPrices_30 : decode cX4_costPrices 30 = .ok (.iload_n 3, 1) := by decide +kernel
theorem dX4_costPrices_31 : decode cX4_costPrices 31 = .ok (.invokevirtual 47, 3) := by decide +kernel
theorem dX4_costPrices_34 : decode cX4_costPrices 34 = .ok (.iastore, 1) := by decide +kernel
theorem dX4_costPrices_35 : decode cX4_costPrices 35 = .ok (.iinc 3 1, 3) := by decide +kernel
theorem dX4_costPrices_38 : decode cX4_costPrices 38 = .ok (.goto (-26), 3) := by decide +kernel
theorem dX4_costPrices_41 : decode cX4_costPrices 41 = .ok (.iinc 2 1, 3) := by decide +kernel
theorem dX4_costPrices_44 : decode cX4_costPrices 44 = .ok (.goto (-42), 3) := by decide +kernel
theorem dX4_costPrices_47 : decode cX4_costPrices 47 = .ok (.return_, 1) := by decide +kernel
set_option maxRecDepth 20000 in
theorem ggX4_costChangesBut_X4_costOthers : GoodIn wsX4_costChangesBut wsX4_costOthers := goodIn_r _ [7, 8, 9, 10, 11, 12, 13, 14, 15, 16, 17, 18] (by decide +kernel) (by decide +kernel)
set_option maxRecDepth 20000 in
theorem gX4_costChangesBut_X4_costOthers : GoodIn wsX4_costChangesBut (wsV RX4 54 RX4 yX4_costOthers wsX4_costOthers) := goodIn_app (goodIn_of _ (by decide +kernel)) ggX4_costChangesBut_X4_costOthers
theorem dX4_costChangesBut_0 : decode cX4_costChangesBut 0 = .ok (.iconst 0, 1) := by decide +kernel
theorem dX4_costChangesBut_1 : decode cX4_costChangesBut 1 = .ok (.istore 4, 2) := by decide +kernel
theorem dX4_costChangesBut_3 : decode cX4_costChangesBut 3 = .ok (.iload 4, 2) := by decide +kernel
theorem dX4_costChangesBut_5 : decode cX4_costChangesBut 5 = .ok (.aload_n 0, 1) := by decide +kernel
theorem dX4_costChangesBut_6 : decode cX4_costChangesBut 6 = .ok (.getfield 36, 3) := by decide +kernel
theorem dX4_costChangesBut_9 : decode cX4_costChangesBut 9 = .ok (.if_icmp .ge 41, 3) := by decide +kernel
theorem dX4_costChangesBut_12 : decode cX4_costChangesBut 12 = .ok (.iload 4, 2) := by decide +kernel
theorem dX4_costChangesBut_14 : decode cX4_costChangesBut 14 = .ok (.iload_n 2, 1) := by decide +kernel
theorem dX4_costChangesBut_15 : decode cX4_costChangesBut 15 = .ok (.if_icmp .ne 16, 3) := by decide +kernel
theorem dX4_costChangesBut_18 : decode cX4_costChangesBut 18 = .ok (.aload_n 0, 1) := by decide +kernel
theorem dX4_costChangesBut_19 : decode cX4_costChangesBut 19 = .ok (.getfield 15, 3) := by decide +kernel
theorem dX4_costChangesBut_22 : decode cX4_costChangesBut 22 = .ok (.iload 4, 2) := by decide +kernel
theorem dX4_costChangesBut_24 : decode cX4_costChangesBut 24 = .ok (.iconst 1, 1) := by decide +kernel
theorem dX4_costChangesBut_25 : decode cX4_costChangesBut 25 = .ok (.iload_n 3, 1) := by decide +kernel
theorem dX4_costChangesBut_26 : decode cX4_costChangesBut 26 = .ok (.ishl, 1) := by decide +kernel
theorem dX4_costChangesBut_27 : decode cX4_costChangesBut 27 = .ok (.iastore, 1) := by decide +kernel
theorem dX4_costChangesBut_28 : decode cX4_costChangesBut 28 = .ok (.goto 16, 3) := by decide +kernel
theorem dX4_costChangesBut_31 : decode cX4_costChangesBut 31 = .ok (.aload_n 0, 1) := by decide +kernel
theorem dX4_costChangesBut_32 : decode cX4_costChangesBut 32 = .ok (.iload 4, 2) := by decide +kernel
theorem dX4_costChangesBut_34 : decode cX4_costChangesBut 34 = .ok (.aload_n 1, 1) := by decide +kernel
theorem dX4_costChangesBut_35 : decode cX4_costChangesBut 35 = .ok (.getfield 51, 3) := by decide +kernel
theorem dX4_costChangesBut_38 : decode cX4_costChangesBut 38 = .ok (.iload 4, 2) := by decide +kernel
theorem dX4_costChangesBut_40 : decode cX4_costChangesBut 40 = .ok (.iaload, 1) := by decide +kernel
theorem dX4_costChangesBut_41 : decode cX4_costChangesBut 41 = .ok (.invokevirtual 54, 3) := by decide +kernel
theorem dX4_costChangesBut_44 : decode cX4_costChangesBut 44 = .ok (.iinc 4 1, 3) := by decide +kernel
theorem dX4_costChangesBut_47 : decode cX4_costChangesBut 47 = .ok (.goto (-44), 3) := by decide +kernel
theorem dX4_costChangesBut_50 : decode cX4_costChangesBut 50 = .ok (.return_, 1) := by decide +kernel
theorem dX4_costOthers_0 : decode cX4_costOthers 0 = .ok (.iconst 0, 1) := by decide +kernel
theorem dX4_costOthers_1 : decode cX4_costOthers 1 = .ok (.istore_n 3, 1) := by decide +kernel
theorem dX4_costOthers_2 : decode cX4_costOthers 2 = .ok (.iload_n 3, 1) := by decide +kernel
theorem dX4_costOthers_3 : decode cX4_costOthers 3 = .ok (.aload_n 0, 1) := by decide +kernel
theorem dX4_costOthers_4 : decode cX4_costOthers 4 = .ok (.getfield 40, 3) := by decide +kernel
theorem dX4_costOthers_7 : decode cX4_costOthers 7 = .ok (.if_icmp .ge 29, 3) := by decide +kernel
theorem dX4_costOthers_10 : decode cX4_costOthers 10 = .ok (.aload_n 0, 1) := by decide +kernel
theorem dX4_costOthers_11 : decode cX4_costOthers 11 = .ok (.getfield 24, 3) := by decide +kernel
theorem dX4_costOthers_14 : decode cX4_costOthers 14 = .ok (.iload_n 1, 1) := by decide +kernel
theorem dX4_costOthers_15 : decode cX4_costOthers 15 = .ok (.iconst 4, 1) := by decide +kernel
theorem dX4_costOthers_16 : decode cX4_costOthers 16 = .ok (.imul, 1) := by decide +kernel
theorem dX4_costOthers_17 : decode cX4_costOthers 17 = .ok (.iload_n 3, 1) := by decide +kernel
theorem dX4_costOthers_18 : decode cX4_costOthers 18 = .ok (.iadd, 1) := by decide +kernel
theorem dX4_costOthers_19 : decode cX4_costOthers 19 = .ok (.iload_n 3, 1) := by decide +kernel
theorem dX4_costOthers_20 : decode cX4_costOthers 20 = .ok (.iload_n 2, 1) := by decide +kernel
theorem dX4_costOthers_21 : decode cX4_costOthers 21 = .ok (.if_icmp .ne 7, 3) := by decide +kernel
theorem dX4_costOthers_24 : decode cX4_costOthers 24 = .ok (.iconst 0, 1) := by decide +kernel
theorem dX4_costOthers_25 : decode cX4_costOthers 25 = .ok (.goto 4, 3) := by decide +kernel
theorem dX4_costOthers_28 : decode cX4_costOthers 28 = .ok (.iconst 1, 1) := by decide +kernel
theorem dX4_costOthers_29 : decode cX4_costOthers 29 = .ok (.iastore, 1) := by decide +kernel
theorem dX4_costOthers_30 : decode cX4_costOthers 30 = .ok (.iinc 3 1, 3) := by decide +kernel
theorem dX4_costOthers_33 : decode cX4_costOthers 33 = .ok (.goto (-31), 3) := by decide +kernel
theorem dX4_costOthers_36 : decode cX4_costOthers 36 = .ok (.return_, 1) := by decide +kernel
set_option maxRecDepth 20000 in
theorem ggX4_answer_X4_find : GoodIn wsX4_answer wsX4_find := goodIn_r _ [8, 9, 1, 10, 3, 11, 12, 13, 7, 14, 15, 16, 17, 18, 19, 20, 21, 22, 23, 24, 25, 2, 26, 27, 28, 29, 30, 31, 32, 33, 34, 35, 36, 37, 38, 39, 40, 41, 42, 43] (by decide +kernel) (by decide +kernel)
set_option maxRecDepth 20000 in
theorem gX4_answer_X4_find : GoodIn wsX4_answer (wsV RX4 58 RX4 yX4_find wsX4_find) := goodIn_app (goodIn_of _ (by decide +kernel)) ggX4_answer_X4_find
theorem dX4_answer_0 : decode cX4_answer 0 = .ok (.aload_n 0, 1) := by decide +kernel
theorem dX4_answer_1 : decode cX4_answer 1 = .ok (.invokevirtual 58, 3) := by decide +kernel
theorem dX4_answer_4 : decode cX4_answer 4 = .ok (.ifCond .ne 6, 3) := by decide +kernel
theorem dX4_answer_7 : decode cX4_answer 7 = .ok (.bipush (-9), 2) := by decide +kernel
theorem dX4_answer_9 : decode cX4_answer 9 = .ok (.ireturn, 1) := by decide +kernel
theorem dX4_answer_10 : decode cX4_answer 10 = .ok (.iload_n 1, 1) := by decide +kernel
theorem dX4_answer_11 : decode cX4_answer 11 = .ok (.ifCond .lt 20, 3) := by decide +kernel
theorem dX4_answer_14 : decode cX4_answer 14 = .ok (.iload_n 1, 1) := by decide +kernel
theorem dX4_answer_15 : decode cX4_answer 15 = .ok (.aload_n 0, 1) := by decide +kernel
theorem dX4_answer_16 : decode cX4_answer 16 = .ok (.getfield 36, 3) := by decide +kernel
theorem dX4_answer_19 : decode cX4_answer 19 = .ok (.if_icmp .ge 12, 3) := by decide +kernel
theorem dX4_answer_22 : decode cX4_answer 22 = .ok (.aload_n 0, 1) := by decide +kernel
theorem dX4_answer_23 : decode cX4_answer 23 = .ok (.getfield 21, 3) := by decide +kernel
theorem dX4_answer_26 : decode cX4_answer 26 = .ok (.iload_n 1, 1) := by decide +kernel
theorem dX4_answer_27 : decode cX4_answer 27 = .ok (.iaload, 1) := by decide +kernel
theorem dX4_answer_28 : decode cX4_answer 28 = .ok (.goto 7, 3) := by decide +kernel
theorem dX4_answer_31 : decode cX4_answer 31 = .ok (.aload_n 0, 1) := by decide +kernel
theorem dX4_answer_32 : decode cX4_answer 32 = .ok (.getfield 62, 3) := by decide +kernel
theorem dX4_answer_35 : decode cX4_answer 35 = .ok (.ireturn, 1) := by decide +kernel
set_option maxRecDepth 20000 in
theorem ggX4_onlySort_X4_find : GoodIn wsX4_onlySort wsX4_find := goodIn_r _ [8, 9, 1, 10, 11, 12, 13, 14, 7, 15, 3, 2, 16, 17, 18, 19, 20, 21, 22, 23, 24, 25, 26, 27, 28, 29, 30, 31, 32, 33, 34, 35, 36, 37, 38, 39, 40, 41, 42, 43] (by decide +kernel) (by decide +kernel)
set_option maxRecDepth 20000 in
theorem gX4_onlySort_X4_find : GoodIn wsX4_onlySort (wsV RX4 58 RX4 yX4_find wsX4_find) := goodIn_app (goodIn_of _ (by decide +kernel)) ggX4_onlySort_X4_find
theorem dX4_onlySort_0 : decode cX4_onlySort 0 = .ok (.bipush (-9), 2) := by decide +kernel
theorem dX4_onlySort_2 : decode cX4_onlySort 2 = .ok (.istore_n 2, 1) := by decide +kernel
theorem dX4_onlySort_3 : decode cX4_onlySort 3 = .ok (.iload_n 1, 1) := by decide +kernel
theorem dX4_onlySort_4 : decode cX4_onlySort 4 = .ok (.ifCond .lt 11, 3) := by decide +kernel
theorem dX4_onlySort_7 : decode cX4_onlySort 7 = .ok (.iload_n 1, 1) := by decide +kernel
theorem dX4_onlySort_8 : decode cX4_onlySort 8 = .ok (.aload_n 0, 1) := by decide +kernel
theorem dX4_onlySort_9 : decode cX4_onlySort 9 = .ok (.getfield 36, 3) := by decide +kernel
theorem dX4_onlySort_12 : decode cX4_onlySort 12 = .ok (.if_icmp .lt 6, 3) := by decide +kernel
theorem dX4_onlySort_15 : decode cX4_onlySort 15 = .ok (.bipush (-9), 2) := by decide +kernel
theorem dX4_onlySort_17 : decode cX4_onlySort 17 = .ok (.ireturn, 1) := by decide +kernel
theorem dX4_onlySort_18 : decode cX4_onlySort 18 = .ok (.aload_n 0, 1) := by decide +kernel
theorem dX4_onlySort_19 : decode cX4_onlySort 19 = .ok (.getfield 15, 3) := by decide +kernel
theorem dX4_onlySort_22 : decode cX4_onlySort 22 = .ok (.iload_n 1, 1) := by decide +kernel
theorem dX4_onlySort_23 : decode cX4_onlySort 23 = .ok (.iaload, 1) := by decide +kernel
theorem dX4_onlySort_24 : decode cX4_onlySort 24 = .ok (.istore_n 3, 1) := by decide +kernel
theorem dX4_onlySort_25 : decode cX4_onlySort 25 = .ok (.iconst 0, 1) := by decide +kernel
theorem dX4_onlySort_26 : decode cX4_onlySort 26 = .ok (.istore 4, 2) := by decide +kernel
theorem dX4_onlySort_28 : decode cX4_onlySort 28 = .ok (.iload 4, 2) := by decide +kernel
theorem dX4_onlySort_30 : decode cX4_onlySort 30 = .ok (.aload_n 0, 1) := by decide +kernel
theorem dX4_onlySort_31 : decode cX4_onlySort 31 = .ok (.getfield 40, 3) := by decide +kernel
theorem dX4_onlySort_34 : decode cX4_onlySort 34 = .ok (.if_icmp .ge 40, 3) := by decide +kernel
theorem dX4_onlySort_37 : decode cX4_onlySort 37 = .ok (.aload_n 0, 1) := by decide +kernel
theorem dX4_onlySort_38 : decode cX4_onlySort 38 = .ok (.getfield 15, 3) := by decide +kernel
theorem dX4_onlySort_41 : decode cX4_onlySort 41 = .ok (.iload_n 1, 1) := by decide +kernel
theorem dX4_onlySort_42 : decode cX4_onlySort 42 = .ok (.iload_n 3, 1) := by decide +kernel
theorem dX4_onlySort_43 : decode cX4_onlySort 43 = .ok (.iconst 1, 1) := by decide +kernel
theorem dX4_onlySort_44 : decode cX4_onlySort 44 = .ok (.iload 4, 2) := by decide +kernel
theorem dX4_onlySort_46 : decode cX4_onlySort 46 = .ok (.ishl, 1) := by decide +kernel
theorem dX4_onlySort_47 : decode cX4_onlySort 47 = .ok (.iand, 1) := by decide +kernel
theorem dX4_onlySort_48 : decode cX4_onlySort 48 = .ok (.iastore, 1) := by decide +kernel
theorem dX4_onlySort_49 : decode cX4_onlySort 49 = .ok (.aload_n 0, 1) := by decide +kernel
theorem dX4_onlySort_50 : decode cX4_onlySort 50 = .ok (.invokevirtual 58, 3) := by decide +kernel
theorem dX4_onlySort_53 : decode cX4_onlySort 53 = .ok (.ifCond .eq 15, 3) := by decide +kernel
theorem dX4_onlySort_56 : decode cX4_onlySort 56 = .ok (.iload_n 2, 1) := by decide +kernel
theorem dX4_onlySort_57 : decode cX4_onlySort 57 = .ok (.bipush (-9), 2) := by decide +kernel
theorem dX4_onlySort_59 : decode cX4_onlySort 59 = .ok (.if_icmp .eq 6, 3) := by decide +kernel
theorem dX4_onlySort_62 : decode cX4_onlySort 62 = .ok (.bipush (-9), 2) := by decide +kernel
theorem dX4_onlySort_64 : decode cX4_onlySort 64 = .ok (.ireturn, 1) := by decide +kernel
theorem dX4_onlySort_65 : decode cX4_onlySort 65 = .ok (.iload 4, 2) := by decide +kernel
theorem dX4_onlySort_67 : decode cX4_onlySort 67 = .ok (.istore_n 2, 1) := by decide +kernel
theorem dX4_onlySort_68 : decode cX4_onlySort 68 = .ok (.iinc 4 1, 3) := by decide +kernel
theorem dX4_onlySort_71 : decode cX4_onlySort 71 = .ok (.goto (-43), 3) := by decide +kernel
theorem dX4_onlySort_74 : decode cX4_onlySort 74 = .ok (.iload_n 2, 1) := by decide +kernel
theorem dX4_onlySort_75 : decode cX4_onlySort 75 = .ok (.ireturn, 1) := by decide +kernel
set_option maxRecDepth 20000 in
theorem ggX4_waysToRoof_X4_waysFrom : GoodIn wsX4_waysToRoof wsX4_waysFrom := goodIn_r _ [4, 5, 6, 7, 8, 9, 10, 11, 3, 12, 13, 14, 15, 16, 17, 18, 19, 20, 1, 2, 21, 22, 23, 24, 25, 26, 27, 28, 29] (by decide +kernel) (by decide +kernel)
set_option maxRecDepth 20000 in
theorem gX4_waysToRoof_X4_waysFrom : GoodIn wsX4_waysToRoof (va_wsS RX4 65 yX4_waysFrom wsX4_waysFrom) := goodIn_app (goodIn_of _ (by decide +kernel)) ggX4_waysToRoof_X4_waysFrom
theorem dX4_waysToRoof_0 : decode cX4_waysToRoof 0 = .ok (.aload_n 0, 1) := by decide +kernel
theorem dX4_waysToRoof_1 : decode cX4_waysToRoof 1 = .ok (.iconst 0, 1) := by decide +kernel
theorem dX4_waysToRoof_2 : decode cX4_waysToRoof 2 = .ok (.invokestatic 65, 3) := by decide +kernel
theorem dX4_waysToRoof_5 : decode cX4_waysToRoof 5 = .ok (.ireturn, 1) := by decide +kernel
set_option maxRecDepth 20000 in
theorem ggX4_find_X4_leastCost : GoodIn wsX4_find wsX4_leastCost := goodIn_r _ [9, 3, 10, 11, 12, 13, 14, 15, 16, 31, 32, 33, 34, 35, 36, 37, 38, 39] (by decide +kernel) (by decide +kernel)
set_option maxRecDepth 20000 in
theorem gX4_find_X4_leastCost : GoodIn wsX4_find (wsV RX4 69 RX4 yX4_leastCost wsX4_leastCost) := goodIn_app (goodIn_of _ (by decide +kernel)) ggX4_find_X4_leastCost
set_option maxRecDepth 20000 in
theorem ggX4_find_X4_seek : GoodIn wsX4_find wsX4_seek := goodIn_r _ [19, 2, 4, 20, 21, 22, 23, 24, 25, 10, 12, 1, 26, 27, 28, 8, 29, 11, 30, 17, 18, 31, 32, 33, 34, 35, 36, 37, 38, 39] (by decide +kernel) (by decide +kernel)
set_option maxRecDepth 20000 in
theorem gX4_find_X4_seek : GoodIn wsX4_find (va_wsS RX4 73 yX4_seek wsX4_seek) := goodIn_app (goodIn_of _ (by decide +kernel)) ggX4_find_X4_seek
theorem dX4_find_0 : decode cX4_find 0 = .ok (.aload_n 0, 1) := by decide +kernel
theorem dX4_find_1 : decode cX4_find 1 = .ok (.getfield 27, 3) := by decide +kernel
theorem dX4_find_4 : decode cX4_find 4 = .ok (.aload_n 0, 1) := by decide +kernel
theorem dX4_find_5 : decode cX4_find 5 = .ok (.getfield 36, 3) := by decide +kernel
theorem dX4_find_8 : decode cX4_find 8 = .ok (.iconst 0, 1) := by decide +kernel
theorem dX4_find_9 : decode cX4_find 9 = .ok (.iastore, 1) := by decide +kernel
theorem dX4_find_10 : decode cX4_find 10 = .ok (.aload_n 0, 1) := by decide +kernel
theorem dX4_find_11 : decode cX4_find 11 = .ok (.getfield 36, 3) := by decide +kernel
theorem dX4_find_14 : decode cX4_find 14 = .ok (.iconst 1, 1) := by decide +kernel
theorem dX4_find_15 : decode cX4_find 15 = .ok (.isub, 1) := by decide +kernel
theorem dX4_find_16 : decode cX4_find 16 = .ok (.istore_n 1, 1) := by decide +kernel
theorem dX4_find_17 : decode cX4_find 17 = .ok (.iload_n 1, 1) := by decide +kernel
theorem dX4_find_18 : decode cX4_find 18 = .ok (.ifCond .lt 29, 3) := by decide +kernel
theorem dX4_find_21 : decode cX4_find 21 = .ok (.aload_n 0, 1) := by decide +kernel
theorem dX4_find_22 : decode cX4_find 22 = .ok (.getfield 27, 3) := by decide +kernel
theorem dX4_find_25 : decode cX4_find 25 = .ok (.iload_n 1, 1) := by decide +kernel
theorem dX4_find_26 : decode cX4_find 26 = .ok (.aload_n 0, 1) := by decide +kernel
theorem dX4_find_27 : decode cX4_find 27 = .ok (.getfield 27, 3) := by decide +kernel
theorem dX4_find_30 : decode cX4_find 30 = .ok (.iload_n 1, 1) := by decide +kernel
theorem dX4_find_31 : decode cX4_find 31 = .ok (.iconst 1, 1) := by decide +kernel
theorem dX4_find_32 : decode cX4_find 32 = .ok (.iadd, 1) := by decide +kernel
theorem dX4_find_33 : decode cX4_find 33 = .ok (.iaload, 1) := by decide +kernel
theorem dX4_find_34 : decode cX4_find 34 = .ok (.aload_n 0, 1) := by decide +kernel
theorem dX4_find_35 : decode cX4_find 35 = .ok (.iload_n 1, 1) := by decide +kernel
theorem dX4_find_36 : decode cX4_find 36 = .ok (.invokevirtual 69, 3) := by decide +kernel
theorem dX4_find_39 : decode cX4_find 39 = .ok (.iadd, 1) := by decide +kernel
theorem dX4_find_40 : decode cX4_find 40 = .ok (.iastore, 1) := by decide +kernel
theorem dX4_find_41 : decode cX4_find 41 = .ok (.iinc 1 (-1), 3) := by decide +kernel
theorem dX4_find_44 : decode cX4_find 44 = .ok (.goto (-27), 3) := by decide +kernel
theorem dX4_find_47 : decode cX4_find 47 = .ok (.aload_n 0, 1) := by decide +kernel
theorem dX4_find_48 : decode cX4_find 48 = .ok (.ldc 72, 2) := by decide +kernel
theorem dX4_find_50 : decode cX4_find 50 = .ok (.putfield 62, 3) := by decide +kernel
theorem dX4_find_53 : decode cX4_find 53 = .ok (.aload_n 0, 1) := by decide +kernel
theorem dX4_find_54 : decode cX4_find 54 = .ok (.iconst 0, 1) := by decide +kernel
theorem dX4_find_55 : decode cX4_find 55 = .ok (.iconst 0, 1) := by decide +kernel
theorem dX4_find_56 : decode cX4_find 56 = .ok (.invokestatic 73, 3) := by decide +kernel
theorem dX4_find_59 : decode cX4_find 59 = .ok (.aload_n 0, 1) := by decide +kernel
theorem dX4_find_60 : decode cX4_find 60 = .ok (.getfield 62, 3) := by decide +kernel
theorem dX4_find_63 : decode cX4_find 63 = .ok (.ldc 72, 2) := by decide +kernel
theorem dX4_find_65 : decode cX4_find 65 = .ok (.if_icmp .ge 7, 3) := by decide +kernel
theorem dX4_find_68 : decode cX4_find 68 = .ok (.iconst 1, 1) := by decide +kernel
theorem dX4_find_69 : decode cX4_find 69 = .ok (.goto 4, 3) := by decide +kernel
theorem dX4_find_72 : decode cX4_find 72 = .ok (.iconst 0, 1) := by decide +kernel
theorem dX4_find_73 : decode cX4_find 73 = .ok (.ireturn, 1) := by decide +kernel
theorem dX4_leastCost_0 : decode cX4_leastCost 0 = .ok (.ldc 72, 2) := by decide +kernel
theorem dX4_leastCost_2 : decode cX4_leastCost 2 = .ok (.istore_n 2, 1) := by decide +kernel
theorem dX4_leastCost_3 : decode cX4_leastCost 3 = .ok (.iconst 0, 1) := by decide +kernel
theorem dX4_leastCost_4 : decode cX4_leastCost 4 = .ok (.istore_n 3, 1) := by decide +kernel
theorem dX4_leastCost_5 : decode cX4_leastCost 5 = .ok (.iload_n 3, 1) := by decide +kernel
theorem dX4_leastCost_6 : decode cX4_leastCost 6 = .ok (.aload_n 0, 1) := by decide +kernel
theorem dX4_leastCost_7 : decode cX4_leastCost 7 = .ok (.getfield 40, 3) := by decide +kernel
theorem dX4_leastCost_10 : decode cX4_leastCost 10 = .ok (.if_icmp .ge 38, 3) := by decide +kernel
theorem dX4_leastCost_13 : decode cX4_leastCost 13 = .ok (.aload_n 0, 1) := by decide +kernel
theorem dX4_leastCost_14 : decode cX4_leastCost 14 = .ok (.getfield 15, 3) := by decide +kernel
theorem dX4_leastCost_17 : decode cX4_leastCost 17 = .ok (.iload_n 1, 1) := by decide +kernel
theorem dX4_leastCost_18 : decode cX4_leastCost 18 = .ok (.iaload, 1) := by decide +kernel
theorem dX4_leastCost_19 : decode cX4_leastCost 19 = .ok (.iload_n 3, 1) := by decide +kernel
theorem dX4_leastCost_20 : decode cX4_leastCost 20 = .ok (.ishr, 1) := by decide +kernel
theorem dX4_leastCost_21 : decode cX4_leastCost 21 = .ok (.iconst 1, 1) := by decide +kernel
theorem dX4_leastCost_22 : decode cX4_leastCost 22 = .ok (.iand, 1) := by decide +kernel
theorem dX4_leastCost_23 : decode cX4_leastCost 23 = .ok (.iconst 1, 1) := by decide +kernel
theorem dX4_leastCost_24 : decode cX4_leastCost 24 = .ok (.if_icmp .ne 18, 3) := by decide +kernel
theorem dX4_leastCost_27 : decode cX4_leastCost 27 = .ok (.iload_n 2, 1) := by decide +kernel
theorem dX4_leastCost_28 : decode cX4_leastCost 28 = .ok (.aload_n 0, 1) := by decide +kernel
theorem dX4_leastCost_29 : decode cX4_leastCost 29 = .ok (.getfield 24, 3) := by decide +kernel
theorem dX4_leastCost_32 : decode cX4_leastCost 32 = .ok (.iload_n 1, 1) := by decide +kernel
theorem dX4_leastCost_33 : decode cX4_leastCost 33 = .ok (.iconst 4, 1) := by decide +kernel
theorem dX4_leastCost_34 : decode cX4_leastCost 34 = .ok (.imul, 1) := by decide +kernel
theorem dX4_leastCost_35 : decode cX4_leastCost 35 = .ok (.iload_n 3, 1) := by decide +kernel
theorem dX4_leastCost_36 : decode cX4_leastCost 36 = .ok (.iadd, 1) := by decide +kernel
theorem dX4_leastCost_37 : decode cX4_leastCost 37 = .ok (.iaload, 1) := by decide +kernel
theorem dX4_leastCost_38 : decode cX4_leastCost 38 = .ok (.invokestatic 77, 3) := by decide +kernel
theorem dX4_leastCost_41 : decode cX4_leastCost 41 = .ok (.istore_n 2, 1) := by decide +kernel
theorem dX4_leastCost_42 : decode cX4_leastCost 42 = .ok (.iinc 3 1, 3) := by decide +kernel
theorem dX4_leastCost_45 : decode cX4_leastCost 45 = .ok (.goto (-40), 3) := by decide +kernel
theorem dX4_leastCost_48 : decode cX4_leastCost 48 = .ok (.iload_n 2, 1) := by decide +kernel
theorem dX4_leastCost_49 : decode cX4_leastCost 49 = .ok (.ireturn, 1) := by decide +kernel
theorem dX4_freeSorts_0 : decode cX4_freeSorts 0 = .ok (.aload_n 0, 1) := by decide +kernel
theorem dX4_freeSorts_1 : decode cX4_freeSorts 1 = .ok (.getfield 15, 3) := by decide +kernel
theorem dX4_freeSorts_4 : decode cX4_freeSorts 4 = .ok (.iload_n 1, 1) := by decide +kernel
theorem dX4_freeSorts_5 : decode cX4_freeSorts 5 = .ok (.iaload, 1) := by decide +kernel
theorem dX4_freeSorts_6 : decode cX4_freeSorts 6 = .ok (.istore_n 2, 1) := by decide +kernel
theorem dX4_freeSorts_7 : decode cX4_freeSorts 7 = .ok (.iconst 0, 1) := by decide +kernel
theorem dX4_freeSorts_8 : decode cX4_freeSorts 8 = .ok (.istore_n 3, 1) := by decide +kernel
theorem dX4_freeSorts_9 : decode cX4_freeSorts 9 = .ok (.iload_n 3, 1) := by decide +kernel
theorem dX4_freeSorts_10 : decode cX4_freeSorts 10 = .ok (.iload_n 1, 1) := by decide +kernel
theorem dX4_freeSorts_11 : decode cX4_freeSorts 11 = .ok (.if_icmp .ge 36, 3) := by decide +kernel
theorem dX4_freeSorts_14 : decode cX4_freeSorts 14 = .ok (.aload_n 0, 1) := by decide +kernel
theorem dX4_freeSorts_15 : decode cX4_freeSorts 15 = .ok (.getfield 9, 3) := by decide +kernel
theorem dX4_freeSorts_18 : decode cX4_freeSorts 18 = .ok (.iload_n 1, 1) := by decide +kernel
theorem dX4_freeSorts_19 : decode cX4_freeSorts 19 = .ok (.iaload, 1) := by decide +kernel
theorem dX4_freeSorts_20 : decode cX4_freeSorts 20 = .ok (.iload_n 3, 1) := by decide +kernel
theorem dX4_freeSorts_21 : decode cX4_freeSorts 21 = .ok (.ishr, 1) := by decide +kernel
theorem dX4_freeSorts_22 : decode cX4_freeSorts 22 = .ok (.iconst 1, 1) := by decide +kernel
theorem dX4_freeSorts_23 : decode cX4_freeSorts 23 = .ok (.iand, 1) := by decide +kernel
theorem dX4_freeSorts_24 : decode cX4_freeSorts 24 = .ok (.iconst 1, 1) := by decide +kernel
theorem dX4_freeSorts_25 : decode cX4_freeSorts 25 = .ok (.if_icmp .ne 16, 3) := by decide +kernel
theorem dX4_freeSorts_28 : decode cX4_freeSorts 28 = .ok (.iload_n 2, 1) := by decide +kernel
theorem dX4_freeSorts_29 : decode cX4_freeSorts 29 = .ok (.iconst 1, 1) := by decide +kernel
theorem dX4_freeSorts_30 : decode cX4_freeSorts 30 = .ok (.aload_n 0, 1) := by decide +kernel
theorem dX4_freeSorts_31 : decode cX4_freeSorts 31 = .ok (.getfield 18, 3) := by decide +kernel
theorem dX4_freeSorts_34 : decode cX4_freeSorts 34 = .ok (.iload_n 3, 1) := by decide +kernel
theorem dX4_freeSorts_35 : decode cX4_freeSorts 35 = .ok (.iaload, 1) := by decide +kernel
theorem dX4_freeSorts_36 : decode cX4_freeSorts 36 = .ok (.ishl, 1) := by decide +kernel
theorem dX4_freeSorts_37 : decode cX4_freeSorts 37 = .ok (.iconst (-1), 1) := by decide +kernel
theorem dX4_freeSorts_38 : decode cX4_freeSorts 38 = .ok (.ixor, 1) := by decide +kernel
theorem dX4_freeSorts_39 : decode cX4_freeSorts 39 = .ok (.iand, 1) := by decide +kernel
theorem dX4_freeSorts_40 : decode cX4_freeSorts 40 = .ok (.istore_n 2, 1) := by decide +kernel
theorem dX4_freeSorts_41 : decode cX4_freeSorts 41 = .ok (.iinc 3 1, 3) := by decide +kernel
theorem dX4_freeSorts_44 : decode cX4_freeSorts 44 = .ok (.goto (-35), 3) := by decide +kernel
theorem dX4_freeSorts_47 : decode cX4_freeSorts 47 = .ok (.iload_n 2, 1) := by decide +kernel
theorem dX4_freeSorts_48 : decode cX4_freeSorts 48 = .ok (.ireturn, 1) := by decide +kernel
set_option maxRecDepth 20000 in
theorem ggX4_seek_X4_freeSorts : GoodIn wsX4_seek wsX4_freeSorts := goodIn_r _ [16, 17, 18, 3, 21, 22, 23, 24, 25, 26, 27, 28, 29] (by decide +kernel) (by decide +kernel)
set_option maxRecDepth 20000 in
theorem gX4_seek_X4_freeSorts : GoodIn wsX4_seek (wsV RX4 88 RX4 yX4_freeSorts wsX4_freeSorts) := goodIn_app (goodIn_of _ (by decide +kernel)) ggX4_seek_X4_freeSorts
set_option maxRecDepth 20000 in
theorem ggX4_seek_X4_seek : GoodIn wsX4_seek wsX4_seek := goodIn_r _ [0, 1, 2, 3, 4, 5, 6, 7, 8, 9, 10, 11, 12, 13, 14, 15, 16, 17, 18, 19, 20, 21, 22, 23, 24, 25, 26, 27, 28, 29] (by decide +kernel) (by decide +kernel)
set_option maxRecDepth 20000 in
theorem gX4_seek_X4_seek : GoodIn wsX4_seek (va_wsS RX4 73 yX4_seek wsX4_seek) := goodIn_app (goodIn_of _ (by decide +kernel)) ggX4_seek_X4_seek
theorem dX4_seek_0 : decode cX4_seek 0 = .ok (.iload_n 1, 1) := by decide +kernel
theorem dX4_seek_1 : decode cX4_seek 1 = .ok (.aload_n 0, 1) := by decide +kernel
theorem dX4_seek_2 : decode cX4_seek 2 = .ok (.getfield 36, 3) := by decide +kernel
theorem dX4_seek_5 : decode cX4_seek 5 = .ok (.if_icmp .ge 9, 3) := by decide +kernel
theorem dX4_seek_8 : decode cX4_seek 8 = .ok (.iload_n 1, 1) := by decide +kernel
theorem dX4_seek_9 : decode cX4_seek 9 = .ok (.bipush 8, 2) := by decide +kernel
theorem dX4_seek_11 : decode cX4_seek 11 = .ok (.if_icmp .lt 24, 3) := by decide +kernel
theorem dX4_seek_14 : decode cX4_seek 14 = .ok (.aload_n 0, 1) := by decide +kernel
theorem dX4_seek_15 : decode cX4_seek 15 = .ok (.iload_n 2, 1) := by decide +kernel
theorem dX4_seek_16 : decode cX4_seek 16 = .ok (.putfield 62, 3) := by decide +kernel
theorem dX4_seek_19 : decode cX4_seek 19 = .ok (.aload_n 0, 1) := by decide +kernel
theorem dX4_seek_20 : decode cX4_seek 20 = .ok (.getfield 18, 3) := by decide +kernel
theorem dX4_seek_23 : decode cX4_seek 23 = .ok (.iconst 0, 1) := by decide +kernel
theorem dX4_seek_24 : decode cX4_seek 24 = .ok (.aload_n 0, 1) := by decide +kernel
theorem dX4_seek_25 : decode cX4_seek 25 = .ok (.getfield 21, 3) := by decide +kernel
theorem dX4_seek_28 : decode cX4_seek 28 = .ok (.iconst 0, 1) := by decide +kernel
theorem dX4_seek_29 : decode cX4_seek 29 = .ok (.bipush 8, 2) := by decide +kernel
theorem dX4_seek_31 : decode cX4_seek 31 = .ok (.invokestatic 82, 3) := by decide +kernel
theorem dX4_seek_34 : decode cX4_seek 34 = .ok (.return_, 1) := by decide +kernel
theorem dX4_seek_35 : decode cX4_seek 35 = .ok (.aload_n 0, 1) := by decide +kernel
theorem dX4_seek_36 : decode cX4_seek 36 = .ok (.iload_n 1, 1) := by decide +kernel
theorem dX4_seek_37 : decode cX4_seek 37 = .ok (.invokevirtual 88, 3) := by decide +kernel
theorem dX4_seek_40 : decode cX4_seek 40 = .ok (.istore_n 3, 1) := by decide +kernel
theorem dX4_seek_41 : decode cX4_seek 41 = .ok (.iconst 0, 1) := by decide +kernel
theorem dX4_seek_42 : decode cX4_seek 42 = .ok (.istore 4, 2) := by decide +kernel
theorem dX4_seek_44 : decode cX4_seek 44 = .ok (.iload 4, 2) := by decide +kernel
theorem dX4_seek_46 : decode cX4_seek 46 = .ok (.aload_n 0, 1) := by decide +kernel
theorem dX4_seek_47 : decode cX4_seek 47 = .ok (.getfield 40, 3) := by decide +kernel
theorem dX4_seek_50 : decode cX4_seek 50 = .ok (.if_icmp .ge 69, 3) := by decide +kernel
theorem dX4_seek_53 : decode cX4_seek 53 = .ok (.iload_n 2, 1) := by decide +kernel
theorem dX4_seek_54 : decode cX4_seek 54 = .ok (.aload_n 0, 1) := by decide +kernel
theorem dX4_seek_55 : decode cX4_seek 55 = .ok (.getfield 24, 3) := by decide +kernel
theorem dX4_seek_58 : decode cX4_seek 58 = .ok (.iload_n 1, 1) := by decide +kernel
theorem dX4_seek_59 : decode cX4_seek 59 = .ok (.iconst 4, 1) := by decide +kernel
theorem dX4_seek_60 : decode cX4_seek 60 = .ok (.imul, 1) := by decide +kernel
theorem dX4_seek_61 : decode cX4_seek 61 = .ok (.iload 4, 2) := by decide +kernel
theorem dX4_seek_63 : decode cX4_seek 63 = .ok (.iadd, 1) := by decide +kernel
theorem dX4_seek_64 : decode cX4_seek 64 = .ok (.iaload, 1) := by decide +kernel
theorem dX4_seek_65 : decode cX4_seek 65 = .ok (.iadd, 1) := by decide +kernel
theorem dX4_seek_66 : decode cX4_seek 66 = .ok (.istore 5, 2) := by decide +kernel
theorem dX4_seek_68 : decode cX4_seek 68 = .ok (.iload_n 3, 1) := by decide +kernel
theorem dX4_seek_69 : decode cX4_seek 69 = .ok (.iload 4, 2) := by decide +kernel
theorem dX4_seek_71 : decode cX4_seek 71 = .ok (.ishr, 1) := by decide +kernel
theorem dX4_seek_72 : decode cX4_seek 72 = .ok (.iconst 1, 1) := by decide +kernel
theorem dX4_seek_73 : decode cX4_seek 73 = .ok (.iand, 1) := by decide +kernel
theorem dX4_seek_74 : decode cX4_seek 74 = .ok (.iconst 1, 1) := by decide +kernel
theorem dX4_seek_75 : decode cX4_seek 75 = .ok (.if_icmp .ne 38, 3) := by decide +kernel
theorem dX4_seek_78 : decode cX4_seek 78 = .ok (.iload 5, 2) := by decide +kernel
theorem dX4_seek_80 : decode cX4_seek 80 = .ok (.aload_n 0, 1) := by decide +kernel
theorem dX4_seek_81 : decode cX4_seek 81 = .ok (.getfield 27, 3) := by decide +kernel
theorem dX4_seek_84 : decode cX4_seek 84 = .ok (.iload_n 1, 1) := by decide +kernel
theorem dX4_seek_85 : decode cX4_seek 85 = .ok (.iconst 1, 1) := by decide +kernel
theorem dX4_seek_86 : decode cX4_seek 86 = .ok (.iadd, 1) := by decide +kernel
theorem dX4_seek_87 : decode cX4_seek 87 = .ok (.iaload, 1) := by decide +kernel
theorem dX4_seek_88 : decode cX4_seek 88 = .ok (.iadd, 1) := by decide +kernel
theorem dX4_seek_89 : decode cX4_seek 89 = .ok (.aload_n 0, 1) := by decide +kernel
theorem dX4_seek_90 : decode cX4_seek 90 = .ok (.getfield 62, 3) := by decide +kernel
theorem dX4_seek_93 : decode cX4_seek 93 = .ok (.if_icmp .ge 20, 3) := by decide +kernel
theorem dX4_seek_96 : decode cX4_seek 96 = .ok (.aload_n 0, 1) := by decide +kernel
theorem dX4_seek_97 : decode cX4_seek 97 = .ok (.getfield 18, 3) := by decide +kernel
theorem dX4_seek_100 : decode cX4_seek 100 = .ok (.iload_n 1, 1) := by decide +kernel
theorem dX4_seek_101 : decode cX4_seek 101 = .ok (.iload 4, 2) := by decide +kernel
theorem dX4_seek_103 : decode cX4_seek 103 = .ok (.iastore, 1) := by decide +kernel
theorem dX4_seek_104 : decode cX4_seek 104 = .ok (.aload_n 0, 1) := by decide +kernel
theorem dX4_seek_105 : decode cX4_seek 105 = .ok (.iload_n 1, 1) := by decide +kernel
theorem dX4_seek_106 : decode cX4_seek 106 = .ok (.iconst 1, 1) := by decide +kernel
theorem dX4_seek_107 : decode cX4_seek 107 = .ok (.iadd, 1) := by decide +kernel
theorem dX4_seek_108 : decode cX4_seek 108 = .ok (.iload 5, 2) := by decide +kernel
theorem dX4_seek_110 : decode cX4_seek 110 = .ok (.invokestatic 73, 3) := by decide +kernel
theorem dX4_seek_113 : decode cX4_seek 113 = .ok (.iinc 4 1, 3) := by decide +kernel
theorem dX4_seek_116 : decode cX4_seek 116 = .ok (.goto (-72), 3) := by decide +kernel
theorem dX4_seek_119 : decode cX4_seek 119 = .ok (.return_, 1) := by decide +kernel
set_option maxRecDepth 20000 in
theorem ggX4_waysFrom_X4_freeSorts : GoodIn wsX4_waysFrom wsX4_freeSorts := goodIn_r _ [9, 10, 2, 4, 20, 21, 22, 23, 24, 25, 26, 27, 28] (by decide +kernel) (by decide +kernel)
set_option maxRecDepth 20000 in
theorem gX4_waysFrom_X4_freeSorts : GoodIn wsX4_waysFrom (wsV RX4 88 RX4 yX4_freeSorts wsX4_freeSorts) := goodIn_app (goodIn_of _ (by decide +kernel)) ggX4_waysFrom_X4_freeSorts
set_option maxRecDepth 20000 in
theorem ggX4_waysFrom_J6_bitCount_0f7a4 : GoodIn wsX4_waysFrom wsJ6_bitCount_0f7a4 := goodIn_r _ [14, 15, 16, 17] (by decide +kernel) (by decide +kernel)
set_option maxRecDepth 20000 in
theorem gX4_waysFrom_J6_bitCount_0f7a4 : GoodIn wsX4_waysFrom (va_wsS RX4 91 yJ6_bitCount_0f7a4 wsJ6_bitCount_0f7a4) := goodIn_app (goodIn_of _ (by decide +kernel)) ggX4_waysFrom_J6_bitCount_0f7a4
set_option maxRecDepth 20000 in
theorem ggX4_waysFrom_X4_waysFrom : GoodIn wsX4_waysFrom wsX4_waysFrom := goodIn_r _ [0, 1, 2, 3, 4, 5, 6, 7, 8, 9, 10, 11, 12, 13, 14, 15, 16, 17, 18, 19, 20, 21, 22, 23, 24, 25, 26, 27, 28] (by decide +kernel) (by decide +kernel)
set_option maxRecDepth 20000 in
theorem gX4_waysFrom_X4_waysFrom : GoodIn wsX4_waysFrom (va_wsS RX4 65 yX4_waysFrom wsX4_waysFrom) := goodIn_app (goodIn_of _ (by decide +kernel)) ggX4_waysFrom_X4_waysFrom
theorem dX4_waysFrom_0 : decode cX4_waysFrom 0 = .ok (.iload_n 1, 1) := by decide +kernel
theorem dX4_waysFrom_1 : decode cX4_waysFrom 1 = .ok (.aload_n 0, 1) := by decide +kernel
theorem dX4_waysFrom_2 : decode cX4_waysFrom 2 = .ok (.getfield 36, 3) := by decide +kernel
theorem dX4_waysFrom_5 : decode cX4_waysFrom 5 = .ok (.if_icmp .ge 9, 3) := by decide +kernel
theorem dX4_waysFrom_8 : decode cX4_waysFrom 8 = .ok (.iload_n 1, 1) := by decide +kernel
theorem dX4_waysFrom_9 : decode cX4_waysFrom 9 = .ok (.bipush 8, 2) := by decide +kernel
theorem dX4_waysFrom_11 : decode cX4_waysFrom 11 = .ok (.if_icmp .lt 5, 3) := by decide +kernel
theorem dX4_waysFrom_14 : decode cX4_waysFrom 14 = .ok (.iconst 1, 1) := by decide +kernel
theorem dX4_waysFrom_15 : decode cX4_waysFrom 15 = .ok (.ireturn, 1) := by decide +kernel
theorem dX4_waysFrom_16 : decode cX4_waysFrom 16 = .ok (.aload_n 0, 1) := by decide +kernel
theorem dX4_waysFrom_17 : decode cX4_waysFrom 17 = .ok (.iload_n 1, 1) := by decide +kernel
theorem dX4_waysFrom_18 : decode cX4_waysFrom 18 = .ok (.invokevirtual 88, 3) := by decide +kernel
theorem dX4_waysFrom_21 : decode cX4_waysFrom 21 = .ok (.istore_n 2, 1) := by decide +kernel
theorem dX4_waysFrom_22 : decode cX4_waysFrom 22 = .ok (.aload_n 0, 1) := by decide +kernel
theorem dX4_waysFrom_23 : decode cX4_waysFrom 23 = .ok (.getfield 9, 3) := by decide +kernel
theorem dX4_waysFrom_26 : decode cX4_waysFrom 26 = .ok (.iload_n 1, 1) := by decide +kernel
theorem dX4_waysFrom_27 : decode cX4_waysFrom 27 = .ok (.iaload, 1) := by decide +kernel
theorem dX4_waysFrom_28 : decode cX4_waysFrom 28 = .ok (.iload_n 1, 1) := by decide +kernel
theorem dX4_waysFrom_29 : decode cX4_waysFrom 29 = .ok (.iconst 1, 1) := by decide +kernel
theorem dX4_waysFrom_30 : decode cX4_waysFrom 30 = .ok (.iadd, 1) := by decide +kernel
theorem dX4_waysFrom_31 : decode cX4_waysFrom 31 = .ok (.ishr, 1) := by decide +kernel
theorem dX4_waysFrom_32 : decode cX4_waysFrom 32 = .ok (.ifCond .ne 7, 3) := by decide +kernel
theorem dX4_waysFrom_35 : decode cX4_waysFrom 35 = .ok (.iconst 1, 1) := by decide +kernel
theorem dX4_waysFrom_36 : decode cX4_waysFrom 36 = .ok (.goto 4, 3) := by decide +kernel
theorem dX4_waysFrom_39 : decode cX4_waysFrom 39 = .ok (.iconst 0, 1) := by decide +kernel
theorem dX4_waysFrom_40 : decode cX4_waysFrom 40 = .ok (.istore_n 3, 1) := by decide +kernel
theorem dX4_waysFrom_41 : decode cX4_waysFrom 41 = .ok (.iload_n 3, 1) := by decide +kernel
theorem dX4_waysFrom_42 : decode cX4_waysFrom 42 = .ok (.ifCond .eq 16, 3) := by decide +kernel
theorem dX4_waysFrom_45 : decode cX4_waysFrom 45 = .ok (.iload_n 2, 1) := by decide +kernel
theorem dX4_waysFrom_46 : decode cX4_waysFrom 46 = .ok (.invokestatic 91, 3) := by decide +kernel
theorem dX4_waysFrom_49 : decode cX4_waysFrom 49 = .ok (.aload_n 0, 1) := by decide +kernel
theorem dX4_waysFrom_50 : decode cX4_waysFrom 50 = .ok (.iload_n 1, 1) := by decide +kernel
theorem dX4_waysFrom_51 : decode cX4_waysFrom 51 = .ok (.iconst 1, 1) := by decide +kernel
theorem dX4_waysFrom_52 : decode cX4_waysFrom 52 = .ok (.iadd, 1) := by decide +kernel
theorem dX4_waysFrom_53 : decode cX4_waysFrom 53 = .ok (.invokestatic 65, 3) := by decide +kernel
theorem dX4_waysFrom_56 : decode cX4_waysFrom 56 = .ok (.imul, 1) := by decide +kernel
theorem dX4_waysFrom_57 : decode cX4_waysFrom 57 = .ok (.ireturn, 1) := by decide +kernel
theorem dX4_waysFrom_58 : decode cX4_waysFrom 58 = .ok (.iconst 0, 1) := by decide +kernel
theorem dX4_waysFrom_59 : decode cX4_waysFrom 59 = .ok (.istore 4, 2) := by decide +kernel
theorem dX4_waysFrom_61 : decode cX4_waysFrom 61 = .ok (.iconst 0, 1) := by decide +kernel
theorem dX4_waysFrom_62 : decode cX4_waysFrom 62 = .ok (.istore 5, 2) := by decide +kernel
theorem dX4_waysFrom_64 : decode cX4_waysFrom 64 = .ok (.iload 5, 2) := by decide +kernel
theorem dX4_waysFrom_66 : decode cX4_waysFrom 66 = .ok (.aload_n 0, 1) := by decide +kernel
theorem dX4_waysFrom_67 : decode cX4_waysFrom 67 = .ok (.getfield 40, 3) := by decide +kernel
theorem dX4_waysFrom_70 : decode cX4_waysFrom 70 = .ok (.if_icmp .ge 39, 3) := by decide +kernel
theorem dX4_waysFrom_73 : decode cX4_waysFrom 73 = .ok (.iload_n 2, 1) := by decide +kernel
theorem dX4_waysFrom_74 : decode cX4_waysFrom 74 = .ok (.iload 5, 2) := by decide +kernel
theorem dX4_waysFrom_76 : decode cX4_waysFrom 76 = .ok (.ishr, 1) := by decide +kernel
theorem dX4_waysFrom_77 : decode cX4_waysFrom 77 = .ok (.iconst 1, 1) := by decide +kernel
theorem dX4_waysFrom_78 : decode cX4_waysFrom 78 = .ok (.iand, 1) := by decide +kernel
theorem dX4_waysFrom_79 : decode cX4_waysFrom 79 = .ok (.iconst 1, 1) := by decide +kernel
theorem dX4_waysFrom_80 : decode cX4_waysFrom 80 = .ok (.if_icmp .ne 23, 3) := by decide +kernel
theorem dX4_waysFrom_83 : decode cX4_waysFrom 83 = .ok (.aload_n 0, 1) := by decide +kernel
theorem dX4_waysFrom_84 : decode cX4_waysFrom 84 = .ok (.getfield 18, 3) := by decide +kernel
theorem dX4_waysFrom_87 : decode cX4_waysFrom 87 = .ok (.iload_n 1, 1) := by decide +kernel
theorem dX4_waysFrom_88 : decode cX4_waysFrom 88 = .ok (.iload 5, 2) := by decide +kernel
theorem dX4_waysFrom_90 : decode cX4_waysFrom 90 = .ok (.iastore, 1) := by decide +kernel
theorem dX4_waysFrom_91 : decode cX4_waysFrom 91 = .ok (.iload 4, 2) := by decide +kernel
theorem dX4_waysFrom_93 : decode cX4_waysFrom 93 = .ok (.aload_n 0, 1) := by decide +kernel
theorem dX4_waysFrom_94 : decode cX4_waysFrom 94 = .ok (.iload_n 1, 1) := by decide +kernel
theorem dX4_waysFrom_95 : decode cX4_waysFrom 95 = .ok (.iconst 1, 1) := by decide +kernel
theorem dX4_waysFrom_96 : decode cX4_waysFrom 96 = .ok (.iadd, 1) := by decide +kernel
theorem dX4_waysFrom_97 : decode cX4_waysFrom 97 = .ok (.invokestatic 65, 3) := by decide +kernel
theorem dX4_waysFrom_100 : decode cX4_waysFrom 100 = .ok (.iadd, 1) := by decide +kernel
theorem dX4_waysFrom_101 : decode cX4_waysFrom 101 = .ok (.istore 4, 2) := by decide +kernel
theorem dX4_waysFrom_103 : decode cX4_waysFrom 103 = .ok (.iinc 5 1, 3) := by decide +kernel
theorem dX4_waysFrom_106 : decode cX4_waysFrom 106 = .ok (.goto (-42), 3) := by decide +kernel
theorem dX4_waysFrom_109 : decode cX4_waysFrom 109 = .ok (.iload 4, 2) := by decide +kernel
theorem dX4_waysFrom_111 : decode cX4_waysFrom 111 = .ok (.ireturn, 1) := by decide +kernel
