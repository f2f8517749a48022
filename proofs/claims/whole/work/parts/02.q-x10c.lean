set_option maxRecDepth 20000 in
theorem ggX10_catches_X10_isHouse : GoodIn wsX10_catches wsX10_isHouse := goodIn_r _ [8, 9, 10, 11, 7, 12, 44, 45, 46, 47, 48, 49, 50, 51, 52, 53, 54, 55, 56, 57, 58, 59, 60, 61, 62, 63, 64, 65, 66, 67, 68, 69, 70, 71, 72, 73, 74] (by decide +kernel) (by decide +kernel)
set_option maxRecDepth 20000 in
theorem gX10_catches_X10_isHouse : GoodIn wsX10_catches (wsV RX10 147 RX10 yX10_isHouse wsX10_isHouse) := goodIn_app (goodIn_of _ (by decide +kernel)) ggX10_catches_X10_isHouse
set_option maxRecDepth 20000 in
theorem ggX10_catches_X10_triesNow : GoodIn wsX10_catches wsX10_triesNow := goodIn_r _ [16, 17, 2, 44, 45, 46, 47, 48, 49, 50, 51, 52, 53, 54, 55, 56, 57, 58, 59, 60, 61, 62, 63, 64, 65, 66, 67, 68, 69, 70, 71, 72, 73, 74] (by decide +kernel) (by decide +kernel)
set_option maxRecDepth 20000 in
theorem gX10_catches_X10_triesNow : GoodIn wsX10_catches (wsV RX10 166 RX10 yX10_triesNow wsX10_triesNow) := goodIn_app (goodIn_of _ (by decide +kernel)) ggX10_catches_X10_triesNow
set_option maxRecDepth 20000 in
theorem ggX10_catches_X10_canBurn : GoodIn wsX10_catches wsX10_canBurn := goodIn_r _ [21, 17, 22, 44, 45, 46, 47, 48, 49, 50, 51, 52, 53, 54, 55, 56, 57, 58, 59, 60, 61, 62, 63, 64, 65, 66, 67, 68, 69, 70, 71, 72, 73, 74] (by decide +kernel) (by decide +kernel)
set_option maxRecDepth 20000 in
theorem gX10_catches_X10_canBurn : GoodIn wsX10_catches (wsV RX10 197 RX10 yX10_canBurn wsX10_canBurn) := goodIn_app (goodIn_of _ (by decide +kernel)) ggX10_catches_X10_canBurn
set_option maxRecDepth 20000 in
theorem ggX10_catches_X10_burns : GoodIn wsX10_catches wsX10_burns := goodIn_r _ [26, 3, 9, 22, 17, 27, 28, 29, 30, 31, 32, 33, 7, 34, 35, 36, 37, 38, 39, 40, 41, 42, 43, 44, 45, 46, 47, 48, 49, 50, 51, 52, 53, 54, 55, 56, 57, 58, 59, 60, 61, 62, 63, 64, 65, 66, 67, 68, 69, 70, 71, 72, 73, 74] (by decide +kernel) (by decide +kernel)
set_option maxRecDepth 20000 in
theorem gX10_catches_X10_burns : GoodIn wsX10_catches (wsV RX10 200 RX10 yX10_burns wsX10_burns) := goodIn_app (goodIn_of _ (by decide +kernel)) ggX10_catches_X10_burns
theorem dX10_catches_0 : decode cX10_catches 0 = .ok (.aload_n 0, 1) := by decide +kernel
theorem dX10_catches_1 : decode cX10_catches 1 = .ok (.iconst 0, 1) := by decide +kernel
theorem dX10_catches_2 : decode cX10_catches 2 = .ok (.putfield 50, 3) := by decide +kernel
theorem dX10_catches_5 : decode cX10_catches 5 = .ok (.aload_n 0, 1) := by decide +kernel
theorem dX10_catches_6 : decode cX10_catches 6 = .ok (.iload_n 1, 1) := by decide +kernel
theorem dX10_catches_7 : decode cX10_catches 7 = .ok (.invokevirtual 147, 3) := by decide +kernel
theorem dX10_catches_10 : decode cX10_catches 10 = .ok (.ifCond .eq 11, 3) := by decide +kernel
theorem dX10_catches_13 : decode cX10_catches 13 = .ok (.aload_n 0, 1) := by decide +kernel
theorem dX10_catches_14 : decode cX10_catches 14 = .ok (.iload_n 2, 1) := by decide +kernel
theorem dX10_catches_15 : decode cX10_catches 15 = .ok (.invokevirtual 147, 3) := by decide +kernel
theorem dX10_catches_18 : decode cX10_catches 18 = .ok (.ifCond .ne 5, 3) := by decide +kernel
theorem dX10_catches_21 : decode cX10_catches 21 = .ok (.iconst (-1), 1) := by decide +kernel
theorem dX10_catches_22 : decode cX10_catches 22 = .ok (.ireturn, 1) := by decide +kernel
theorem dX10_catches_23 : decode cX10_catches 23 = .ok (.aload_n 0, 1) := by decide +kernel
theorem dX10_catches_24 : decode cX10_catches 24 = .ok (.invokevirtual 166, 3) := by decide +kernel
theorem dX10_catches_27 : decode cX10_catches 27 = .ok (.aload_n 0, 1) := by decide +kernel
theorem dX10_catches_28 : decode cX10_catches 28 = .ok (.iload_n 1, 1) := by decide +kernel
theorem dX10_catches_29 : decode cX10_catches 29 = .ok (.invokevirtual 197, 3) := by decide +kernel
theorem dX10_catches_32 : decode cX10_catches 32 = .ok (.ifCond .ne 6, 3) := by decide +kernel
theorem dX10_catches_35 : decode cX10_catches 35 = .ok (.bipush (-2), 2) := by decide +kernel
theorem dX10_catches_37 : decode cX10_catches 37 = .ok (.ireturn, 1) := by decide +kernel
theorem dX10_catches_38 : decode cX10_catches 38 = .ok (.aload_n 0, 1) := by decide +kernel
theorem dX10_catches_39 : decode cX10_catches 39 = .ok (.iload_n 1, 1) := by decide +kernel
theorem dX10_catches_40 : decode cX10_catches 40 = .ok (.aload_n 0, 1) := by decide +kernel
theorem dX10_catches_41 : decode cX10_catches 41 = .ok (.getfield 31, 3) := by decide +kernel
theorem dX10_catches_44 : decode cX10_catches 44 = .ok (.bipush 8, 2) := by decide +kernel
theorem dX10_catches_46 : decode cX10_catches 46 = .ok (.iaload, 1) := by decide +kernel
theorem dX10_catches_47 : decode cX10_catches 47 = .ok (.invokevirtual 200, 3) := by decide +kernel
theorem dX10_catches_50 : decode cX10_catches 50 = .ok (.aload_n 0, 1) := by decide +kernel
theorem dX10_catches_51 : decode cX10_catches 51 = .ok (.getfield 47, 3) := by decide +kernel
theorem dX10_catches_54 : decode cX10_catches 54 = .ok (.iload_n 2, 1) := by decide +kernel
theorem dX10_catches_55 : decode cX10_catches 55 = .ok (.iaload, 1) := by decide +kernel
theorem dX10_catches_56 : decode cX10_catches 56 = .ok (.ireturn, 1) := by decide +kernel
set_option maxRecDepth 20000 in
theorem ggX10_fire_X10_isHouse : GoodIn wsX10_fire wsX10_isHouse := goodIn_r _ [10, 11, 12, 13, 9, 14, 44, 45, 46, 47, 48, 49, 50, 51, 52, 53, 54, 55, 56, 57, 58, 59, 60, 61, 62, 63, 64, 65, 66, 67, 68, 69, 70, 71, 72, 73, 74] (by decide +kernel) (by decide +kernel)
set_option maxRecDepth 20000 in
theorem gX10_fire_X10_isHouse : GoodIn wsX10_fire (wsV RX10 147 RX10 yX10_isHouse wsX10_isHouse) := goodIn_app (goodIn_of _ (by decide +kernel)) ggX10_fire_X10_isHouse
set_option maxRecDepth 20000 in
theorem ggX10_fire_X10_in : GoodIn wsX10_fire wsX10_in := goodIn_r _ [14] (by decide +kernel) (by decide +kernel)
set_option maxRecDepth 20000 in
theorem gX10_fire_X10_in : GoodIn wsX10_fire (va_wsS RX10 54 yX10_in wsX10_in) := goodIn_app (goodIn_of _ (by decide +kernel)) ggX10_fire_X10_in
set_option maxRecDepth 20000 in
theorem ggX10_fire_X10_triesNow : GoodIn wsX10_fire wsX10_triesNow := goodIn_r _ [18, 19, 2, 44, 45, 46, 47, 48, 49, 50, 51, 52, 53, 54, 55, 56, 57, 58, 59, 60, 61, 62, 63, 64, 65, 66, 67, 68, 69, 70, 71, 72, 73, 74] (by decide +kernel) (by decide +kernel)
set_option maxRecDepth 20000 in
theorem gX10_fire_X10_triesNow : GoodIn wsX10_fire (wsV RX10 166 RX10 yX10_triesNow wsX10_triesNow) := goodIn_app (goodIn_of _ (by decide +kernel)) ggX10_fire_X10_triesNow
set_option maxRecDepth 20000 in
theorem ggX10_fire_X10_canBurn : GoodIn wsX10_fire wsX10_canBurn := goodIn_r _ [23, 19, 24, 44, 45, 46, 47, 48, 49, 50, 51, 52, 53, 54, 55, 56, 57, 58, 59, 60, 61, 62, 63, 64, 65, 66, 67, 68, 69, 70, 71, 72, 73, 74] (by decide +kernel) (by decide +kernel)
set_option maxRecDepth 20000 in
theorem gX10_fire_X10_canBurn : GoodIn wsX10_fire (wsV RX10 197 RX10 yX10_canBurn wsX10_canBurn) := goodIn_app (goodIn_of _ (by decide +kernel)) ggX10_fire_X10_canBurn
set_option maxRecDepth 20000 in
theorem ggX10_fire_X10_burns : GoodIn wsX10_fire wsX10_burns := goodIn_r _ [28, 29, 11, 24, 19, 3, 4, 5, 30, 31, 32, 33, 9, 34, 35, 36, 37, 38, 39, 40, 41, 42, 43, 44, 45, 46, 47, 48, 49, 50, 51, 52, 53, 54, 55, 56, 57, 58, 59, 60, 61, 62, 63, 64, 65, 66, 67, 68, 69, 70, 71, 72, 73, 74] (by decide +kernel) (by decide +kernel)
set_option maxRecDepth 20000 in
theorem gX10_fire_X10_burns : GoodIn wsX10_fire (wsV RX10 200 RX10 yX10_burns wsX10_burns) := goodIn_app (goodIn_of _ (by decide +kernel)) ggX10_fire_X10_burns
theorem dX10_fire_0 : decode cX10_fire 0 = .ok (.aload_n 0, 1) := by decide +kernel
theorem dX10_fire_1 : decode cX10_fire 1 = .ok (.iconst 0, 1) := by decide +kernel
theorem dX10_fire_2 : decode cX10_fire 2 = .ok (.putfield 50, 3) := by decide +kernel
theorem dX10_fire_5 : decode cX10_fire 5 = .ok (.aload_n 0, 1) := by decide +kernel
theorem dX10_fire_6 : decode cX10_fire 6 = .ok (.iload_n 1, 1) := by decide +kernel
theorem dX10_fire_7 : decode cX10_fire 7 = .ok (.invokevirtual 147, 3) := by decide +kernel
theorem dX10_fire_10 : decode cX10_fire 10 = .ok (.ifCond .eq 12, 3) := by decide +kernel
theorem dX10_fire_13 : decode cX10_fire 13 = .ok (.iload_n 2, 1) := by decide +kernel
theorem dX10_fire_14 : decode cX10_fire 14 = .ok (.iconst 0, 1) := by decide +kernel
theorem dX10_fire_15 : decode cX10_fire 15 = .ok (.iconst 2, 1) := by decide +kernel
theorem dX10_fire_16 : decode cX10_fire 16 = .ok (.invokestatic 54, 3) := by decide +kernel
theorem dX10_fire_19 : decode cX10_fire 19 = .ok (.ifCond .ne 5, 3) := by decide +kernel
theorem dX10_fire_22 : decode cX10_fire 22 = .ok (.iconst (-1), 1) := by decide +kernel
theorem dX10_fire_23 : decode cX10_fire 23 = .ok (.ireturn, 1) := by decide +kernel
theorem dX10_fire_24 : decode cX10_fire 24 = .ok (.aload_n 0, 1) := by decide +kernel
theorem dX10_fire_25 : decode cX10_fire 25 = .ok (.invokevirtual 166, 3) := by decide +kernel
theorem dX10_fire_28 : decode cX10_fire 28 = .ok (.aload_n 0, 1) := by decide +kernel
theorem dX10_fire_29 : decode cX10_fire 29 = .ok (.iload_n 1, 1) := by decide +kernel
theorem dX10_fire_30 : decode cX10_fire 30 = .ok (.invokevirtual 197, 3) := by decide +kernel
theorem dX10_fire_33 : decode cX10_fire 33 = .ok (.ifCond .ne 6, 3) := by decide +kernel
theorem dX10_fire_36 : decode cX10_fire 36 = .ok (.bipush (-2), 2) := by decide +kernel
theorem dX10_fire_38 : decode cX10_fire 38 = .ok (.ireturn, 1) := by decide +kernel
theorem dX10_fire_39 : decode cX10_fire 39 = .ok (.aload_n 0, 1) := by decide +kernel
theorem dX10_fire_40 : decode cX10_fire 40 = .ok (.iload_n 1, 1) := by decide +kernel
theorem dX10_fire_41 : decode cX10_fire 41 = .ok (.aload_n 0, 1) := by decide +kernel
theorem dX10_fire_42 : decode cX10_fire 42 = .ok (.getfield 31, 3) := by decide +kernel
theorem dX10_fire_45 : decode cX10_fire 45 = .ok (.bipush 8, 2) := by decide +kernel
theorem dX10_fire_47 : decode cX10_fire 47 = .ok (.iaload, 1) := by decide +kernel
theorem dX10_fire_48 : decode cX10_fire 48 = .ok (.invokevirtual 200, 3) := by decide +kernel
theorem dX10_fire_51 : decode cX10_fire 51 = .ok (.iload_n 2, 1) := by decide +kernel
theorem dX10_fire_52 : decode cX10_fire 52 = .ok (.ifCond .ne 10, 3) := by decide +kernel
theorem dX10_fire_55 : decode cX10_fire 55 = .ok (.aload_n 0, 1) := by decide +kernel
theorem dX10_fire_56 : decode cX10_fire 56 = .ok (.getfield 188, 3) := by decide +kernel
theorem dX10_fire_59 : decode cX10_fire 59 = .ok (.goto 19, 3) := by decide +kernel
theorem dX10_fire_62 : decode cX10_fire 62 = .ok (.iload_n 2, 1) := by decide +kernel
theorem dX10_fire_63 : decode cX10_fire 63 = .ok (.iconst 1, 1) := by decide +kernel
theorem dX10_fire_64 : decode cX10_fire 64 = .ok (.if_icmp .ne 10, 3) := by decide +kernel
theorem dX10_fire_67 : decode cX10_fire 67 = .ok (.aload_n 0, 1) := by decide +kernel
theorem dX10_fire_68 : decode cX10_fire 68 = .ok (.getfield 191, 3) := by decide +kernel
theorem dX10_fire_71 : decode cX10_fire 71 = .ok (.goto 7, 3) := by decide +kernel
theorem dX10_fire_74 : decode cX10_fire 74 = .ok (.aload_n 0, 1) := by decide +kernel
theorem dX10_fire_75 : decode cX10_fire 75 = .ok (.getfield 194, 3) := by decide +kernel
theorem dX10_fire_78 : decode cX10_fire 78 = .ok (.ireturn, 1) := by decide +kernel
set_option maxRecDepth 20000 in
theorem ggX10_worst_X10_triesNow : GoodIn wsX10_worst wsX10_triesNow := goodIn_r _ [9, 10, 3, 37, 38, 39, 40, 41, 42, 43, 44, 45, 46, 47, 48, 49, 50, 51, 52, 53, 54, 55, 56, 57, 58, 59, 60, 61, 62, 63, 64, 65, 66, 67] (by decide +kernel) (by decide +kernel)
set_option maxRecDepth 20000 in
theorem gX10_worst_X10_triesNow : GoodIn wsX10_worst (wsV RX10 166 RX10 yX10_triesNow wsX10_triesNow) := goodIn_app (goodIn_of _ (by decide +kernel)) ggX10_worst_X10_triesNow
set_option maxRecDepth 20000 in
theorem ggX10_worst_X10_canBurn : GoodIn wsX10_worst wsX10_canBurn := goodIn_r _ [14, 10, 15, 37, 38, 39, 40, 41, 42, 43, 44, 45, 46, 47, 48, 49, 50, 51, 52, 53, 54, 55, 56, 57, 58, 59, 60, 61, 62, 63, 64, 65, 66, 67] (by decide +kernel) (by decide +kernel)
set_option maxRecDepth 20000 in
theorem gX10_worst_X10_canBurn : GoodIn wsX10_worst (wsV RX10 197 RX10 yX10_canBurn wsX10_canBurn) := goodIn_app (goodIn_of _ (by decide +kernel)) ggX10_worst_X10_canBurn
set_option maxRecDepth 20000 in
theorem ggX10_worst_X10_burns : GoodIn wsX10_worst wsX10_burns := goodIn_r _ [19, 20, 2, 15, 10, 21, 4, 22, 23, 24, 25, 26, 8, 27, 28, 29, 30, 31, 32, 33, 34, 35, 36, 37, 38, 39, 40, 41, 42, 43, 44, 45, 46, 47, 48, 49, 50, 51, 52, 53, 54, 55, 56, 57, 58, 59, 60, 61, 62, 63, 64, 65, 66, 67] (by decide +kernel) (by decide +kernel)
set_option maxRecDepth 20000 in
theorem gX10_worst_X10_burns : GoodIn wsX10_worst (wsV RX10 200 RX10 yX10_burns wsX10_burns) := goodIn_app (goodIn_of _ (by decide +kernel)) ggX10_worst_X10_burns
theorem dX10_worst_0 : decode cX10_worst 0 = .ok (.aload_n 0, 1) := by decide +kernel
theorem dX10_worst_1 : decode cX10_worst 1 = .ok (.iconst 0, 1) := by decide +kernel
theorem dX10_worst_2 : decode cX10_worst 2 = .ok (.putfield 50, 3) := by decide +kernel
theorem dX10_worst_5 : decode cX10_worst 5 = .ok (.aload_n 0, 1) := by decide +kernel
theorem dX10_worst_6 : decode cX10_worst 6 = .ok (.invokevirtual 166, 3) := by decide +kernel
theorem dX10_worst_9 : decode cX10_worst 9 = .ok (.bipush (-9), 2) := by decide +kernel
theorem dX10_worst_11 : decode cX10_worst 11 = .ok (.istore_n 1, 1) := by decide +kernel
theorem dX10_worst_12 : decode cX10_worst 12 = .ok (.iconst 0, 1) := by decide +kernel
theorem dX10_worst_13 : decode cX10_worst 13 = .ok (.istore_n 2, 1) := by decide +kernel
theorem dX10_worst_14 : decode cX10_worst 14 = .ok (.iconst 0, 1) := by decide +kernel
theorem dX10_worst_15 : decode cX10_worst 15 = .ok (.istore_n 3, 1) := by decide +kernel
theorem dX10_worst_16 : decode cX10_worst 16 = .ok (.iload_n 3, 1) := by decide +kernel
theorem dX10_worst_17 : decode cX10_worst 17 = .ok (.aload_n 0, 1) := by decide +kernel
theorem dX10_worst_18 : decode cX10_worst 18 = .ok (.getfield 138, 3) := by decide +kernel
theorem dX10_worst_21 : decode cX10_worst 21 = .ok (.if_icmp .ge 66, 3) := by decide +kernel
theorem dX10_worst_24 : decode cX10_worst 24 = .ok (.aload_n 0, 1) := by decide +kernel
theorem dX10_worst_25 : decode cX10_worst 25 = .ok (.iload_n 3, 1) := by decide +kernel
theorem dX10_worst_26 : decode cX10_worst 26 = .ok (.invokevirtual 197, 3) := by decide +kernel
theorem dX10_worst_29 : decode cX10_worst 29 = .ok (.ifCond .eq 52, 3) := by decide +kernel
theorem dX10_worst_32 : decode cX10_worst 32 = .ok (.aload_n 0, 1) := by decide +kernel
theorem dX10_worst_33 : decode cX10_worst 33 = .ok (.iload_n 3, 1) := by decide +kernel
theorem dX10_worst_34 : decode cX10_worst 34 = .ok (.aload_n 0, 1) := by decide +kernel
theorem dX10_worst_35 : decode cX10_worst 35 = .ok (.getfield 31, 3) := by decide +kernel
theorem dX10_worst_38 : decode cX10_worst 38 = .ok (.bipush 8, 2) := by decide +kernel
theorem dX10_worst_40 : decode cX10_worst 40 = .ok (.iaload, 1) := by decide +kernel
theorem dX10_worst_41 : decode cX10_worst 41 = .ok (.invokevirtual 200, 3) := by decide +kernel
theorem dX10_worst_44 : decode cX10_worst 44 = .ok (.iload_n 1, 1) := by decide +kernel
theorem dX10_worst_45 : decode cX10_worst 45 = .ok (.bipush (-9), 2) := by decide +kernel
theorem dX10_worst_47 : decode cX10_worst 47 = .ok (.if_icmp .eq 11, 3) := by decide +kernel
theorem dX10_worst_50 : decode cX10_worst 50 = .ok (.aload_n 0, 1) := by decide +kernel
theorem dX10_worst_51 : decode cX10_worst 51 = .ok (.getfield 191, 3) := by decide +kernel
theorem dX10_worst_54 : decode cX10_worst 54 = .ok (.iload_n 2, 1) := by decide +kernel
theorem dX10_worst_55 : decode cX10_worst 55 = .ok (.if_icmp .le 7, 3) := by decide +kernel
theorem dX10_worst_58 : decode cX10_worst 58 = .ok (.iload_n 3, 1) := by decide +kernel
theorem dX10_worst_59 : decode cX10_worst 59 = .ok (.goto 4, 3) := by decide +kernel
theorem dX10_worst_62 : decode cX10_worst 62 = .ok (.iload_n 1, 1) := by decide +kernel
theorem dX10_worst_63 : decode cX10_worst 63 = .ok (.istore_n 1, 1) := by decide +kernel
theorem dX10_worst_64 : decode cX10_worst 64 = .ok (.aload_n 0, 1) := by decide +kernel
theorem dX10_worst_65 : decode cX10_worst 65 = .ok (.getfield 191, 3) := by decide +kernel
theorem dX10_worst_68 : decode cX10_worst 68 = .ok (.iload_n 2, 1) := by decide +kernel
theorem dX10_worst_69 : decode cX10_worst 69 = .ok (.if_icmp .le 10, 3) := by decide +kernel
theorem dX10_worst_72 : decode cX10_worst 72 = .ok (.aload_n 0, 1) := by decide +kernel
theorem dX10_worst_73 : decode cX10_worst 73 = .ok (.getfield 191, 3) := by decide +kernel
theorem dX10_worst_76 : decode cX10_worst 76 = .ok (.goto 4, 3) := by decide +kernel
theorem dX10_worst_79 : decode cX10_worst 79 = .ok (.iload_n 2, 1) := by decide +kernel
theorem dX10_worst_80 : decode cX10_worst 80 = .ok (.istore_n 2, 1) := by decide +kernel
theorem dX10_worst_81 : decode cX10_worst 81 = .ok (.iinc 3 1, 3) := by decide +kernel
theorem dX10_worst_84 : decode cX10_worst 84 = .ok (.goto (-68), 3) := by decide +kernel
theorem dX10_worst_87 : decode cX10_worst 87 = .ok (.iload_n 1, 1) := by decide +kernel
theorem dX10_worst_88 : decode cX10_worst 88 = .ok (.ireturn, 1) := by decide +kernel
theorem dX10_gcd_0 : decode cX10_gcd 0 = .ok (.iload_n 0, 1) := by decide +kernel
theorem dX10_gcd_1 : decode cX10_gcd 1 = .ok (.istore_n 2, 1) := by decide +kernel
theorem dX10_gcd_2 : decode cX10_gcd 2 = .ok (.iload_n 1, 1) := by decide +kernel
theorem dX10_gcd_3 : decode cX10_gcd 3 = .ok (.istore_n 3, 1) := by decide +kernel
theorem dX10_gcd_4 : decode cX10_gcd 4 = .ok (.iload_n 3, 1) := by decide +kernel
theorem dX10_gcd_5 : decode cX10_gcd 5 = .ok (.ifCond .eq 16, 3) := by decide +kernel
theorem dX10_gcd_8 : decode cX10_gcd 8 = .ok (.iload_n 2, 1) := by decide +kernel
theorem dX10_gcd_9 : decode cX10_gcd 9 = .ok (.iload_n 3, 1) := by decide +kernel
theorem dX10_gcd_10 : decode cX10_gcd 10 = .ok (.irem, 1) := by decide +kernel
theorem dX10_gcd_11 : decode cX10_gcd 11 = .ok (.istore 4, 2) := by decide +kernel
theorem dX10_gcd_13 : decode cX10_gcd 13 = .ok (.iload_n 3, 1) := by decide +kernel
theorem dX10_gcd_14 : decode cX10_gcd 14 = .ok (.istore_n 2, 1) := by decide +kernel
theorem dX10_gcd_15 : decode cX10_gcd 15 = .ok (.iload 4, 2) := by decide +kernel
theorem dX10_gcd_17 : decode cX10_gcd 17 = .ok (.istore_n 3, 1) := by decide +kernel
theorem dX10_gcd_18 : decode cX10_gcd 18 = .ok (.goto (-14), 3) := by decide +kernel
theorem dX10_gcd_21 : decode cX10_gcd 21 = .ok (.iload_n 2, 1) := by decide +kernel
theorem dX10_gcd_22 : decode cX10_gcd 22 = .ok (.ireturn, 1) := by decide +kernel
set_option maxRecDepth 20000 in
theorem ggX10_mean_X10_isBit : GoodIn wsX10_mean wsX10_isBit := goodIn_r _ [9, 10, 11, 8, 12] (by decide +kernel) (by decide +kernel)
set_option maxRecDepth 20000 in
theorem gX10_mean_X10_isBit : GoodIn wsX10_mean (va_wsS RX10 163 yX10_isBit wsX10_isBit) := goodIn_app (goodIn_of _ (by decide +kernel)) ggX10_mean_X10_isBit
set_option maxRecDepth 20000 in
theorem ggX10_mean_X10_triesNow : GoodIn wsX10_mean wsX10_triesNow := goodIn_r _ [16, 17, 4, 47, 48, 49, 50, 51, 52, 53, 54, 55, 56, 57, 58, 59, 60, 61, 62, 63, 64, 65, 66, 67, 68, 69, 70, 71, 72, 73, 74, 75, 76, 77] (by decide +kernel) (by decide +kernel)
set_option maxRecDepth 20000 in
theorem gX10_mean_X10_triesNow : GoodIn wsX10_mean (wsV RX10 166 RX10 yX10_triesNow wsX10_triesNow) := goodIn_app (goodIn_of _ (by decide +kernel)) ggX10_mean_X10_triesNow
set_option maxRecDepth 20000 in
theorem ggX10_mean_X10_canBurn : GoodIn wsX10_mean wsX10_canBurn := goodIn_r _ [21, 17, 22, 47, 48, 49, 50, 51, 52, 53, 54, 55, 56, 57, 58, 59, 60, 61, 62, 63, 64, 65, 66, 67, 68, 69, 70, 71, 72, 73, 74, 75, 76, 77] (by decide +kernel) (by decide +kernel)
set_option maxRecDepth 20000 in
theorem gX10_mean_X10_canBurn : GoodIn wsX10_mean (wsV RX10 197 RX10 yX10_canBurn wsX10_canBurn) := goodIn_app (goodIn_of _ (by decide +kernel)) ggX10_mean_X10_canBurn
set_option maxRecDepth 20000 in
theorem ggX10_mean_X10_burns : GoodIn wsX10_mean wsX10_burns := goodIn_r _ [26, 27, 3, 22, 17, 28, 5, 29, 30, 31, 32, 33, 8, 34, 35, 36, 37, 38, 39, 40, 41, 42, 43, 47, 48, 49, 50, 51, 52, 53, 54, 55, 56, 57, 58, 59, 60, 61, 62, 63, 64, 65, 66, 67, 68, 69, 70, 71, 72, 73, 74, 75, 76, 77] (by decide +kernel) (by decide +kernel)
set_option maxRecDepth 20000 in
theorem gX10_mean_X10_burns : GoodIn wsX10_mean (wsV RX10 200 RX10 yX10_burns wsX10_burns) := goodIn_app (goodIn_of _ (by decide +kernel)) ggX10_mean_X10_burns
set_option maxRecDepth 20000 in
theorem ggX10_mean_X10_gcd : GoodIn wsX10_mean wsX10_gcd := goodIn_r _ [46] (by decide +kernel) (by decide +kernel)
set_option maxRecDepth 20000 in
theorem gX10_mean_X10_gcd : GoodIn wsX10_mean (va_wsS RX10 205 yX10_gcd wsX10_gcd) := goodIn_app (goodIn_of _ (by decide +kernel)) ggX10_mean_X10_gcd
theorem dX10_mean_0 : decode cX10_mean 0 = .ok (.aload_n 0, 1) := by decide +kernel
theorem dX10_mean_1 : decode cX10_mean 1 = .ok (.iconst 0, 1) := by decide +kernel
theorem dX10_mean_2 : decode cX10_mean 2 = .ok (.putfield 50, 3) := by decide +kernel
theorem dX10_mean_5 : decode cX10_mean 5 = .ok (.iload_n 1, 1) := by decide +kernel
theorem dX10_mean_6 : decode cX10_mean 6 = .ok (.invokestatic 163, 3) := by decide +kernel
theorem dX10_mean_9 : decode cX10_mean 9 = .ok (.ifCond .ne 6, 3) := by decide +kernel
theorem dX10_mean_12 : decode cX10_mean 12 = .ok (.ldc 204, 2) := by decide +kernel
theorem dX10_mean_14 : decode cX10_mean 14 = .ok (.ireturn, 1) := by decide +kernel
theorem dX10_mean_15 : decode cX10_mean 15 = .ok (.aload_n 0, 1) := by decide +kernel
theorem dX10_mean_16 : decode cX10_mean 16 = .ok (.invokevirtual 166, 3) := by decide +kernel
theorem dX10_mean_19 : decode cX10_mean 19 = .ok (.iconst 0, 1) := by decide +kernel
theorem dX10_mean_20 : decode cX10_mean 20 = .ok (.istore_n 2, 1) := by decide +kernel
theorem dX10_mean_21 : decode cX10_mean 21 = .ok (.iconst 0, 1) := by decide +kernel
theorem dX10_mean_22 : decode cX10_mean 22 = .ok (.istore_n 3, 1) := by decide +kernel
theorem dX10_mean_23 : decode cX10_mean 23 = .ok (.iconst 0, 1) := by decide +kernel
theorem dX10_mean_24 : decode cX10_mean 24 = .ok (.istore 4, 2) := by decide +kernel
theorem dX10_mean_26 : decode cX10_mean 26 = .ok (.iload 4, 2) := by decide +kernel
theorem dX10_mean_28 : decode cX10_mean 28 = .ok (.aload_n 0, 1) := by decide +kernel
theorem dX10_mean_29 : decode cX10_mean 29 = .ok (.getfield 138, 3) := by decide +kernel
theorem dX10_mean_32 : decode cX10_mean 32 = .ok (.if_icmp .ge 41, 3) := by decide +kernel
theorem dX10_mean_35 : decode cX10_mean 35 = .ok (.aload_n 0, 1) := by decide +kernel
theorem dX10_mean_36 : decode cX10_mean 36 = .ok (.iload 4, 2) := by decide +kernel
theorem dX10_mean_38 : decode cX10_mean 38 = .ok (.invokevirtual 197, 3) := by decide +kernel
theorem dX10_mean_41 : decode cX10_mean 41 = .ok (.ifCond .eq 26, 3) := by decide +kernel
theorem dX10_mean_44 : decode cX10_mean 44 = .ok (.aload_n 0, 1) := by decide +kernel
theorem dX10_mean_45 : decode cX10_mean 45 = .ok (.iload 4, 2) := by decide +kernel
theorem dX10_mean_47 : decode cX10_mean 47 = .ok (.aload_n 0, 1) := by decide +kernel
theorem dX10_mean_48 : decode cX10_mean 48 = .ok (.getfield 31, 3) := by decide +kernel
theorem dX10_mean_51 : decode cX10_mean 51 = .ok (.bipush 8, 2) := by decide +kernel
theorem dX10_mean_53 : decode cX10_mean 53 = .ok (.iaload, 1) := by decide +kernel
theorem dX10_mean_54 : decode cX10_mean 54 = .ok (.invokevirtual 200, 3) := by decide +kernel
theorem dX10_mean_57 : decode cX10_mean 57 = .ok (.iload_n 2, 1) := by decide +kernel
theorem dX10_mean_58 : decode cX10_mean 58 = .ok (.aload_n 0, 1) := by decide +kernel
theorem dX10_mean_59 : decode cX10_mean 59 = .ok (.getfield 191, 3) := by decide +kernel
theorem dX10_mean_62 : decode cX10_mean 62 = .ok (.iadd, 1) := by decide +kernel
theorem dX10_mean_63 : decode cX10_mean 63 = .ok (.istore_n 2, 1) := by decide +kernel
theorem dX10_mean_64 : decode cX10_mean 64 = .ok (.iinc 3 1, 3) := by decide +kernel
theorem dX10_mean_67 : decode cX10_mean 67 = .ok (.iinc 4 1, 3) := by decide +kernel
theorem dX10_mean_70 : decode cX10_mean 70 = .ok (.goto (-44), 3) := by decide +kernel
theorem dX10_mean_73 : decode cX10_mean 73 = .ok (.iload_n 3, 1) := by decide +kernel
theorem dX10_mean_74 : decode cX10_mean 74 = .ok (.ifCond .ne 6, 3) := by decide +kernel
theorem dX10_mean_77 : decode cX10_mean 77 = .ok (.ldc 204, 2) := by decide +kernel
theorem dX10_mean_79 : decode cX10_mean 79 = .ok (.ireturn, 1) := by decide +kernel
theorem dX10_mean_80 : decode cX10_mean 80 = .ok (.iload_n 2, 1) := by decide +kernel
theorem dX10_mean_81 : decode cX10_mean 81 = .ok (.iload_n 3, 1) := by decide +kernel
theorem dX10_mean_82 : decode cX10_mean 82 = .ok (.invokestatic 205, 3) := by decide +kernel
theorem dX10_mean_85 : decode cX10_mean 85 = .ok (.istore 4, 2) := by decide +kernel
theorem dX10_mean_87 : decode cX10_mean 87 = .ok (.iload_n 1, 1) := by decide +kernel
theorem dX10_mean_88 : decode cX10_mean 88 = .ok (.ifCond .ne 10, 3) := by decide +kernel
theorem dX10_mean_91 : decode cX10_mean 91 = .ok (.iload_n 2, 1) := by decide +kernel
theorem dX10_mean_92 : decode cX10_mean 92 = .ok (.iload 4, 2) := by decide +kernel
theorem dX10_mean_94 : decode cX10_mean 94 = .ok (.idiv, 1) := by decide +kernel
theorem dX10_mean_95 : decode cX10_mean 95 = .ok (.goto 7, 3) := by decide +kernel
theorem dX10_mean_98 : decode cX10_mean 98 = .ok (.iload_n 3, 1) := by decide +kernel
theorem dX10_mean_99 : decode cX10_mean 99 = .ok (.iload 4, 2) := by decide +kernel
theorem dX10_mean_101 : decode cX10_mean 101 = .ok (.idiv, 1) := by decide +kernel
theorem dX10_mean_102 : decode cX10_mean 102 = .ok (.ireturn, 1) := by decide +kernel
set_option maxRecDepth 20000 in
theorem ggX10_saw_X10_isHouse : GoodIn wsX10_saw wsX10_isHouse := goodIn_r _ [7, 8, 9, 10, 6, 11, 12, 13, 14, 15, 16, 17, 18, 19, 20, 21, 22, 23, 24, 25, 26, 27, 28, 29, 30, 31, 32, 33, 34, 35, 36, 37, 38, 39, 40, 41, 42] (by decide +kernel) (by decide +kernel)
set_option maxRecDepth 20000 in
theorem gX10_saw_X10_isHouse : GoodIn wsX10_saw (wsV RX10 147 RX10 yX10_isHouse wsX10_isHouse) := goodIn_app (goodIn_of _ (by decide +kernel)) ggX10_saw_X10_isHouse
set_option maxRecDepth 20000 in
theorem ggX10_saw_X10_in : GoodIn wsX10_saw wsX10_in := goodIn_r _ [11] (by decide +kernel) (by decide +kernel)
set_option maxRecDepth 20000 in
theorem gX10_saw_X10_in : GoodIn wsX10_saw (va_wsS RX10 54 yX10_in wsX10_in) := goodIn_app (goodIn_of _ (by decide +kernel)) ggX10_saw_X10_in
theorem dX10_saw_0 : decode cX10_saw 0 = .ok (.aload_n 0, 1) := by decide +kernel
theorem dX10_saw_1 : decode cX10_saw 1 = .ok (.iconst 0, 1) := by decide +kernel
theorem dX10_saw_2 : decode cX10_saw 2 = .ok (.putfield 50, 3) := by decide +kernel
theorem dX10_saw_5 : decode cX10_saw 5 = .ok (.aload_n 0, 1) := by decide +kernel
theorem dX10_saw_6 : decode cX10_saw 6 = .ok (.iload_n 1, 1) := by decide +kernel
theorem dX10_saw_7 : decode cX10_saw 7 = .ok (.invokevirtual 147, 3) := by decide +kernel
theorem dX10_saw_10 : decode cX10_saw 10 = .ok (.ifCond .eq 19, 3) := by decide +kernel
theorem dX10_saw_13 : decode cX10_saw 13 = .ok (.iload_n 2, 1) := by decide +kernel
theorem dX10_saw_14 : decode cX10_saw 14 = .ok (.bipush (-9), 2) := by decide +kernel
theorem dX10_saw_16 : decode cX10_saw 16 = .ok (.if_icmp .eq 15, 3) := by decide +kernel
theorem dX10_saw_19 : decode cX10_saw 19 = .ok (.iload_n 2, 1) := by decide +kernel
theorem dX10_saw_20 : decode cX10_saw 20 = .ok (.iconst 0, 1) := by decide +kernel
theorem dX10_saw_21 : decode cX10_saw 21 = .ok (.bipush 99, 2) := by decide +kernel
theorem dX10_saw_23 : decode cX10_saw 23 = .ok (.invokestatic 54, 3) := by decide +kernel
theorem dX10_saw_26 : decode cX10_saw 26 = .ok (.ifCond .ne 5, 3) := by decide +kernel
theorem dX10_saw_29 : decode cX10_saw 29 = .ok (.iconst (-1), 1) := by decide +kernel
theorem dX10_saw_30 : decode cX10_saw 30 = .ok (.ireturn, 1) := by decide +kernel
theorem dX10_saw_31 : decode cX10_saw 31 = .ok (.aload_n 0, 1) := by decide +kernel
theorem dX10_saw_32 : decode cX10_saw 32 = .ok (.getfield 31, 3) := by decide +kernel
theorem dX10_saw_35 : decode cX10_saw 35 = .ok (.bipush 10, 2) := by decide +kernel
theorem dX10_saw_37 : decode cX10_saw 37 = .ok (.iaload, 1) := by decide +kernel
theorem dX10_saw_38 : decode cX10_saw 38 = .ok (.bipush 8, 2) := by decide +kernel
theorem dX10_saw_40 : decode cX10_saw 40 = .ok (.if_icmp .ne 6, 3) := by decide +kernel
theorem dX10_saw_43 : decode cX10_saw 43 = .ok (.bipush (-3), 2) := by decide +kernel
theorem dX10_saw_45 : decode cX10_saw 45 = .ok (.ireturn, 1) := by decide +kernel
theorem dX10_saw_46 : decode cX10_saw 46 = .ok (.aload_n 0, 1) := by decide +kernel
theorem dX10_saw_47 : decode cX10_saw 47 = .ok (.getfield 31, 3) := by decide +kernel
theorem dX10_saw_50 : decode cX10_saw 50 = .ok (.bipush 11, 2) := by decide +kernel
theorem dX10_saw_52 : decode cX10_saw 52 = .ok (.iconst 2, 1) := by decide +kernel
theorem dX10_saw_53 : decode cX10_saw 53 = .ok (.aload_n 0, 1) := by decide +kernel
theorem dX10_saw_54 : decode cX10_saw 54 = .ok (.getfield 31, 3) := by decide +kernel
theorem dX10_saw_57 : decode cX10_saw 57 = .ok (.bipush 10, 2) := by decide +kernel
theorem dX10_saw_59 : decode cX10_saw 59 = .ok (.iaload, 1) := by decide +kernel
theorem dX10_saw_60 : decode cX10_saw 60 = .ok (.imul, 1) := by decide +kernel
theorem dX10_saw_61 : decode cX10_saw 61 = .ok (.iadd, 1) := by decide +kernel
theorem dX10_saw_62 : decode cX10_saw 62 = .ok (.iload_n 1, 1) := by decide +kernel
theorem dX10_saw_63 : decode cX10_saw 63 = .ok (.iastore, 1) := by decide +kernel
theorem dX10_saw_64 : decode cX10_saw 64 = .ok (.aload_n 0, 1) := by decide +kernel
theorem dX10_saw_65 : decode cX10_saw 65 = .ok (.getfield 31, 3) := by decide +kernel
theorem dX10_saw_68 : decode cX10_saw 68 = .ok (.bipush 11, 2) := by decide +kernel
theorem dX10_saw_70 : decode cX10_saw 70 = .ok (.iconst 2, 1) := by decide +kernel
theorem dX10_saw_71 : decode cX10_saw 71 = .ok (.aload_n 0, 1) := by decide +kernel
theorem dX10_saw_72 : decode cX10_saw 72 = .ok (.getfield 31, 3) := by decide +kernel
theorem dX10_saw_75 : decode cX10_saw 75 = .ok (.bipush 10, 2) := by decide +kernel
theorem dX10_saw_77 : decode cX10_saw 77 = .ok (.iaload, 1) := by decide +kernel
theorem dX10_saw_78 : decode cX10_saw 78 = .ok (.imul, 1) := by decide +kernel
theorem dX10_saw_79 : decode cX10_saw 79 = .ok (.iadd, 1) := by decide +kernel
theorem dX10_saw_80 : decode cX10_saw 80 = .ok (.iconst 1, 1) := by decide +kernel
theorem dX10_saw_81 : decode cX10_saw 81 = .ok (.iadd, 1) := by decide +kernel
theorem dX10_saw_82 : decode cX10_saw 82 = .ok (.iload_n 2, 1) := by decide +kernel
theorem dX10_saw_83 : decode cX10_saw 83 = .ok (.iastore, 1) := by decide +kernel
theorem dX10_saw_84 : decode cX10_saw 84 = .ok (.aload_n 0, 1) := by decide +kernel
theorem dX10_saw_85 : decode cX10_saw 85 = .ok (.getfield 31, 3) := by decide +kernel
theorem dX10_saw_88 : decode cX10_saw 88 = .ok (.bipush 10, 2) := by decide +kernel
theorem dX10_saw_90 : decode cX10_saw 90 = .ok (.dup2, 1) := by decide +kernel
theorem dX10_saw_91 : decode cX10_saw 91 = .ok (.iaload, 1) := by decide +kernel
theorem dX10_saw_92 : decode cX10_saw 92 = .ok (.iconst 1, 1) := by decide +kernel
theorem dX10_saw_93 : decode cX10_saw 93 = .ok (.iadd, 1) := by decide +kernel
theorem dX10_saw_94 : decode cX10_saw 94 = .ok (.iastore, 1) := by decide +kernel
theorem dX10_saw_95 : decode cX10_saw 95 = .ok (.aload_n 0, 1) := by decide +kernel
theorem dX10_saw_96 : decode cX10_saw 96 = .ok (.getfield 31, 3) := by decide +kernel
theorem dX10_saw_99 : decode cX10_saw 99 = .ok (.bipush 10, 2) := by decide +kernel
theorem dX10_saw_101 : decode cX10_saw 101 = .ok (.iaload, 1) := by decide +kernel
theorem dX10_saw_102 : decode cX10_saw 102 = .ok (.ireturn, 1) := by decide +kernel
theorem dX10_forget_0 : decode cX10_forget 0 = .ok (.aload_n 0, 1) := by decide +kernel
theorem dX10_forget_1 : decode cX10_forget 1 = .ok (.iconst 0, 1) := by decide +kernel
theorem dX10_forget_2 : decode cX10_forget 2 = .ok (.putfield 50, 3) := by decide +kernel
theorem dX10_forget_5 : decode cX10_forget 5 = .ok (.aload_n 0, 1) := by decide +kernel
theorem dX10_forget_6 : decode cX10_forget 6 = .ok (.getfield 31, 3) := by decide +kernel
theorem dX10_forget_9 : decode cX10_forget 9 = .ok (.bipush 10, 2) := by decide +kernel
theorem dX10_forget_11 : decode cX10_forget 11 = .ok (.iaload, 1) := by decide +kernel
theorem dX10_forget_12 : decode cX10_forget 12 = .ok (.istore_n 1, 1) := by decide +kernel
theorem dX10_forget_13 : decode cX10_forget 13 = .ok (.aload_n 0, 1) := by decide +kernel
theorem dX10_forget_14 : decode cX10_forget 14 = .ok (.getfield 31, 3) := by decide +kernel
theorem dX10_forget_17 : decode cX10_forget 17 = .ok (.bipush 10, 2) := by decide +kernel
theorem dX10_forget_19 : decode cX10_forget 19 = .ok (.iconst 0, 1) := by decide +kernel
theorem dX10_forget_20 : decode cX10_forget 20 = .ok (.iastore, 1) := by decide +kernel
theorem dX10_forget_21 : decode cX10_forget 21 = .ok (.iload_n 1, 1) := by decide +kernel
theorem dX10_forget_22 : decode cX10_forget 22 = .ok (.ireturn, 1) := by decide +kernel
set_option maxRecDepth 20000 in
theorem ggX10_began_X10_triesNow : GoodIn wsX10_began wsX10_triesNow := goodIn_r _ [9, 10, 3, 37, 38, 39, 40, 41, 42, 43, 44, 45, 46, 47, 48, 49, 50, 51, 52, 53, 54, 55, 56, 57, 58, 59, 60, 61, 62, 63, 64, 65, 66, 67] (by decide +kernel) (by decide +kernel)
set_option maxRecDepth 20000 in
theorem gX10_began_X10_triesNow : GoodIn wsX10_began (wsV RX10 166 RX10 yX10_triesNow wsX10_triesNow) := goodIn_app (goodIn_of _ (by decide +kernel)) ggX10_began_X10_triesNow
set_option maxRecDepth 20000 in
theorem ggX10_began_X10_canBurn : GoodIn wsX10_began wsX10_canBurn := goodIn_r _ [14, 10, 15, 37, 38, 39, 40, 41, 42, 43, 44, 45, 46, 47, 48, 49, 50, 51, 52, 53, 54, 55, 56, 57, 58, 59, 60, 61, 62, 63, 64, 65, 66, 67] (by decide +kernel) (by decide +kernel)
set_option maxRecDepth 20000 in
theorem gX10_began_X10_canBurn : GoodIn wsX10_began (wsV RX10 197 RX10 yX10_canBurn wsX10_canBurn) := goodIn_app (goodIn_of _ (by decide +kernel)) ggX10_began_X10_canBurn
set_option maxRecDepth 20000 in
theorem ggX10_began_X10_burns : GoodIn wsX10_began wsX10_burns := goodIn_r _ [19, 4, 2, 15, 10, 20, 21, 22, 23, 24, 25, 26, 8, 27, 28, 29, 30, 31, 32, 33, 34, 35, 36, 37, 38, 39, 40, 41, 42, 43, 44, 45, 46, 47, 48, 49, 50, 51, 52, 53, 54, 55, 56, 57, 58, 59, 60, 61, 62, 63, 64, 65, 66, 67] (by decide +kernel) (by decide +kernel)
set_option maxRecDepth 20000 in
theorem gX10_began_X10_burns : GoodIn wsX10_began (wsV RX10 200 RX10 yX10_burns wsX10_burns) := goodIn_app (goodIn_of _ (by decide +kernel)) ggX10_began_X10_burns
theorem dX10_began_0 : decode cX10_began 0 = .ok (.aload_n 0, 1) := by decide +kernel
theorem dX10_began_1 : decode cX10_began 1 = .ok (.iconst 0, 1) := by decide +kernel
theorem dX10_began_2 : decode cX10_began 2 = .ok (.putfield 50, 3) := by decide +kernel
theorem dX10_began_5 : decode cX10_began 5 = .ok (.aload_n 0, 1) := by decide +kernel
theorem dX10_began_6 : decode cX10_began 6 = .ok (.invokevirtual 166, 3) := by decide +kernel
theorem dX10_began_9 : decode cX10_began 9 = .ok (.iconst 0, 1) := by decide +kernel
theorem dX10_began_10 : decode cX10_began 10 = .ok (.istore_n 1, 1) := by decide +kernel
theorem dX10_began_11 : decode cX10_began 11 = .ok (.iconst 0, 1) := by decide +kernel
theorem dX10_began_12 : decode cX10_began 12 = .ok (.istore_n 2, 1) := by decide +kernel
theorem dX10_began_13 : decode cX10_began 13 = .ok (.iload_n 2, 1) := by decide +kernel
theorem dX10_began_14 : decode cX10_began 14 = .ok (.aload_n 0, 1) := by decide +kernel
theorem dX10_began_15 : decode cX10_began 15 = .ok (.getfield 138, 3) := by decide +kernel
theorem dX10_began_18 : decode cX10_began 18 = .ok (.if_icmp .ge 110, 3) := by decide +kernel
theorem dX10_began_21 : decode cX10_began 21 = .ok (.aload_n 0, 1) := by decide +kernel
theorem dX10_began_22 : decode cX10_began 22 = .ok (.iload_n 2, 1) := by decide +kernel
theorem dX10_began_23 : decode cX10_began 23 = .ok (.invokevirtual 197, 3) := by decide +kernel
theorem dX10_began_26 : decode cX10_began 26 = .ok (.ifCond .eq 96, 3) := by decide +kernel
theorem dX10_began_29 : decode cX10_began 29 = .ok (.aload_n 0, 1) := by decide +kernel
theorem dX10_began_30 : decode cX10_began 30 = .ok (.iload_n 2, 1) := by decide +kernel
theorem dX10_began_31 : decode cX10_began 31 = .ok (.aload_n 0, 1) := by decide +kernel
theorem dX10_began_32 : decode cX10_began 32 = .ok (.getfield 31, 3) := by decide +kernel
theorem dX10_began_35 : decode cX10_began 35 = .ok (.bipush 8, 2) := by decide +kernel
theorem dX10_began_37 : decode cX10_began 37 = .ok (.iaload, 1) := by decide +kernel
theorem dX10_began_38 : decode cX10_began 38 = .ok (.invokevirtual 200, 3) := by decide +kernel
theorem dX10_began_41 : decode cX10_began 41 = .ok (.iconst 1, 1) := by decide +kernel
theorem dX10_began_42 : decode cX10_began 42 = .ok (.istore_n 3, 1) := by decide +kernel
theorem dX10_began_43 : decode cX10_began 43 = .ok (.iconst 0, 1) := by decide +kernel
theorem dX10_began_44 : decode cX10_began 44 = .ok (.istore 4, 2) := by decide +kernel
theorem dX10_began_46 : decode cX10_began 46 = .ok (.iload 4, 2) := by decide +kernel
theorem dX10_began_48 : decode cX10_began 48 = .ok (.aload_n 0, 1) := by decide +kernel
theorem dX10_began_49 : decode cX10_began 49 = .ok (.getfield 31, 3) := by decide +kernel
theorem dX10_began_52 : decode cX10_began 52 = .ok (.bipush 10, 2) := by decide +kernel
theorem dX10_began_54 : decode cX10_began 54 = .ok (.iaload, 1) := by decide +kernel
theorem dX10_began_55 : decode cX10_began 55 = .ok (.if_icmp .ge 53, 3) := by decide +kernel
theorem dX10_began_58 : decode cX10_began 58 = .ok (.iload_n 3, 1) := by decide +kernel
theorem dX10_began_59 : decode cX10_began 59 = .ok (.ifCond .eq 41, 3) := by decide +kernel
theorem dX10_began_62 : decode cX10_began 62 = .ok (.aload_n 0, 1) := by decide +kernel
theorem dX10_began_63 : decode cX10_began 63 = .ok (.getfield 47, 3) := by decide +kernel
theorem dX10_began_66 : decode cX10_began 66 = .ok (.aload_n 0, 1) := by decide +kernel
theorem dX10_began_67 : decode cX10_began 67 = .ok (.getfield 31, 3) := by decide +kernel
theorem dX10_began_70 : decode cX10_began 70 = .ok (.bipush 11, 2) := by decide +kernel
theorem dX10_began_72 : decode cX10_began 72 = .ok (.iconst 2, 1) := by decide +kernel
theorem dX10_began_73 : decode cX10_began 73 = .ok (.iload 4, 2) := by decide +kernel
theorem dX10_began_75 : decode cX10_began 75 = .ok (.imul, 1) := by decide +kernel
theorem dX10_began_76 : decode cX10_began 76 = .ok (.iadd, 1) := by decide +kernel
theorem dX10_began_77 : decode cX10_began 77 = .ok (.iaload, 1) := by decide +kernel
theorem dX10_began_78 : decode cX10_began 78 = .ok (.iaload, 1) := by decide +kernel
theorem dX10_began_79 : decode cX10_began 79 = .ok (.aload_n 0, 1) := by decide +kernel
theorem dX10_began_80 : decode cX10_began 80 = .ok (.getfield 31, 3) := by decide +kernel
theorem dX10_began_83 : decode cX10_began 83 = .ok (.bipush 11, 2) := by decide +kernel
theorem dX10_began_85 : decode cX10_began 85 = .ok (.iconst 2, 1) := by decide +kernel
theorem dX10_began_86 : decode cX10_began 86 = .ok (.iload 4, 2) := by decide +kernel
theorem dX10_began_88 : decode cX10_began 88 = .ok (.imul, 1) := by decide +kernel
theorem dX10_began_89 : decode cX10_began 89 = .ok (.iadd, 1) := by decide +kernel
theorem dX10_began_90 : decode cX10_began 90 = .ok (.iconst 1, 1) := by decide +kernel
theorem dX10_began_91 : decode cX10_began 91 = .ok (.iadd, 1) := by decide +kernel
theorem dX10_began_92 : decode cX10_began 92 = .ok (.iaload, 1) := by decide +kernel
theorem dX10_began_93 : decode cX10_began 93 = .ok (.if_icmp .ne 7, 3) := by decide +kernel
theorem dX10_began_96 : decode cX10_began 96 = .ok (.iconst 1, 1) := by decide +kernel
theorem dX10_began_97 : decode cX10_began 97 = .ok (.goto 4, 3) := by decide +kernel
theorem dX10_began_100 : decode cX10_began 100 = .ok (.iconst 0, 1) := by decide +kernel
theorem dX10_began_101 : decode cX10_began 101 = .ok (.istore_n 3, 1) := by decide +kernel
theorem dX10_began_102 : decode cX10_began 102 = .ok (.iinc 4 1, 3) := by decide +kernel
theorem dX10_began_105 : decode cX10_began 105 = .ok (.goto (-59), 3) := by decide +kernel
theorem dX10_began_108 : decode cX10_began 108 = .ok (.iload_n 1, 1) := by decide +kernel
theorem dX10_began_109 : decode cX10_began 109 = .ok (.iload_n 3, 1) := by decide +kernel
theorem dX10_began_110 : decode cX10_began 110 = .ok (.ifCond .eq 9, 3) := by decide +kernel
theorem dX10_began_113 : decode cX10_began 113 = .ok (.iconst 1, 1) := by decide +kernel
theorem dX10_began_114 : decode cX10_began 114 = .ok (.iload_n 2, 1) := by decide +kernel
theorem dX10_began_115 : decode cX10_began 115 = .ok (.ishl, 1) := by decide +kernel
theorem dX10_began_116 : decode cX10_began 116 = .ok (.goto 4, 3) := by decide +kernel
theorem dX10_began_119 : decode cX10_began 119 = .ok (.iconst 0, 1) := by decide +kernel
theorem dX10_began_120 : decode cX10_began 120 = .ok (.ior, 1) := by decide +kernel
theorem dX10_began_121 : decode cX10_began 121 = .ok (.istore_n 1, 1) := by decide +kernel
theorem dX10_began_122 : decode cX10_began 122 = .ok (.iinc 2 1, 3) := by decide +kernel
theorem dX10_began_125 : decode cX10_began 125 = .ok (.goto (-112), 3) := by decide +kernel
theorem dX10_began_128 : decode cX10_began 128 = .ok (.iload_n 1, 1) := by decide +kernel
theorem dX10_began_129 : decode cX10_began 129 = .ok (.ireturn, 1) := by decide +kernel
set_option maxRecDepth 20000 in
theorem ggX10_change_X10_isHouse : GoodIn wsX10_change wsX10_isHouse := goodIn_r _ [12, 3, 13, 14, 11, 15, 57, 58, 59, 60, 61, 62, 63, 64, 65, 66, 67, 68, 69, 70, 71, 72, 73, 74, 75, 76, 77, 78, 79, 80, 81, 82, 83, 84, 85, 86, 87] (by decide +kernel) (by decide +kernel)
set_option maxRecDepth 20000 in
theorem gX10_change_X10_isHouse : GoodIn wsX10_change (wsV RX10 147 RX10 yX10_isHouse wsX10_isHouse) := goodIn_app (goodIn_of _ (by decide +kernel)) ggX10_change_X10_isHouse
set_option maxRecDepth 20000 in
theorem ggX10_change_X10_isSort : GoodIn wsX10_change wsX10_isSort := goodIn_r _ [19, 20, 13, 14, 11, 15, 57, 58, 59, 60, 61, 62, 63, 64, 65, 66, 67, 68, 69, 70, 71, 72, 73, 74, 75, 76, 77, 78, 79, 80, 81, 82, 83, 84, 85, 86, 87] (by decide +kernel) (by decide +kernel)
set_option maxRecDepth 20000 in
theorem gX10_change_X10_isSort : GoodIn wsX10_change (wsV RX10 154 RX10 yX10_isSort wsX10_isSort) := goodIn_app (goodIn_of _ (by decide +kernel)) ggX10_change_X10_isSort
set_option maxRecDepth 20000 in
theorem ggX10_change_X10_isBit : GoodIn wsX10_change wsX10_isBit := goodIn_r _ [23, 13, 14, 11, 15] (by decide +kernel) (by decide +kernel)
set_option maxRecDepth 20000 in
theorem gX10_change_X10_isBit : GoodIn wsX10_change (va_wsS RX10 163 yX10_isBit wsX10_isBit) := goodIn_app (goodIn_of _ (by decide +kernel)) ggX10_change_X10_isBit
set_option maxRecDepth 20000 in
theorem ggX10_change_X10_beginsRow : GoodIn wsX10_change wsX10_beginsRow := goodIn_r _ [27, 3, 6, 2, 20, 57, 58, 59, 60, 61, 62, 63, 64, 65, 66, 67, 68, 69, 70, 71, 72, 73, 74, 75, 76, 77, 78, 79, 80, 81, 82, 83, 84, 85, 86, 87] (by decide +kernel) (by decide +kernel)
set_option maxRecDepth 20000 in
theorem gX10_change_X10_beginsRow : GoodIn wsX10_change (wsV RX10 172 RX10 yX10_beginsRow wsX10_beginsRow) := goodIn_app (goodIn_of _ (by decide +kernel)) ggX10_change_X10_beginsRow
set_option maxRecDepth 20000 in
theorem ggX10_change_X10_breachesOf : GoodIn wsX10_change wsX10_breachesOf := goodIn_r _ [31, 3, 32, 33, 34, 11, 35, 6, 36, 37, 38, 39, 40, 41, 42, 43, 44, 45, 46, 47, 48, 57, 58, 59, 60, 61, 62, 63, 64, 65, 66, 67, 68, 69, 70, 71, 72, 73, 74, 75, 76, 77, 78, 79, 80, 81, 82, 83, 84, 85, 86, 87] (by decide +kernel) (by decide +kernel)
set_option maxRecDepth 20000 in
theorem gX10_change_X10_breachesOf : GoodIn wsX10_change (wsV RX10 169 RX10 yX10_breachesOf wsX10_breachesOf) := goodIn_app (goodIn_of _ (by decide +kernel)) ggX10_change_X10_breachesOf
set_option maxRecDepth 20000 in
theorem ggX10_change_X10_keepsRow : GoodIn wsX10_change wsX10_keepsRow := goodIn_r _ [52, 3, 7, 6, 57, 58, 59, 60, 61, 62, 63, 64, 65, 66, 67, 68, 69, 70, 71, 72, 73, 74, 75, 76, 77, 78, 79, 80, 81, 82, 83, 84, 85, 86, 87] (by decide +kernel) (by decide +kernel)
set_option maxRecDepth 20000 in
theorem gX10_change_X10_keepsRow : GoodIn wsX10_change (wsV RX10 179 RX10 yX10_keepsRow wsX10_keepsRow) := goodIn_app (goodIn_of _ (by decide +kernel)) ggX10_change_X10_keepsRow
set_option maxRecDepth 20000 in
theorem ggX10_change_X10_nextRow : GoodIn wsX10_change wsX10_nextRow := goodIn_r _ [56, 3, 2, 6, 20, 57, 58, 59, 60, 61, 62, 63, 64, 65, 66, 67, 68, 69, 70, 71, 72, 73, 74, 75, 76, 77, 78, 79, 80, 81, 82, 83, 84, 85, 86, 87] (by decide +kernel) (by decide +kernel)
set_option maxRecDepth 20000 in
theorem gX10_change_X10_nextRow : GoodIn wsX10_change (wsV RX10 182 RX10 yX10_nextRow wsX10_nextRow) := goodIn_app (goodIn_of _ (by decide +kernel)) ggX10_change_X10_nextRow
theorem dX10_change_0 : decode cX10_change 0 = .ok (.aload_n 0, 1) := by decide +kernel
theorem dX10_change_1 : decode cX10_change 1 = .ok (.iconst 0, 1) := by decide +kernel
theorem dX10_change_2 : decode cX10_change 2 = .ok (.putfield 50, 3) := by decide +kernel
theorem dX10_change_5 : decode cX10_change 5 = .ok (.aload_n 0, 1) := by decide +kernel
theorem dX10_change_6 : decode cX10_change 6 = .ok (.iload_n 1, 1) := by decide +kernel
theorem dX10_change_7 : decode cX10_change 7 = .ok (.invokevirtual 147, 3) := by decide +kernel
theorem dX10_change_10 : decode cX10_change 10 = .ok (.ifCond .eq 33, 3) := by decide +kernel
theorem dX10_change_13 : decode cX10_change 13 = .ok (.aload_n 0, 1) := by decide +kernel
theorem dX10_change_14 : decode cX10_change 14 = .ok (.iload_n 2, 1) := by decide +kernel
theorem dX10_change_15 : decode cX10_change 15 = .ok (.invokevirtual 154, 3) := by decide +kernel
theorem dX10_change_18 : decode cX10_change 18 = .ok (.ifCond .eq 25, 3) := by decide +kernel
theorem dX10_change_21 : decode cX10_change 21 = .ok (.iload_n 3, 1) := by decide +kernel
theorem dX10_change_22 : decode cX10_change 22 = .ok (.invokestatic 163, 3) := by decide +kernel
theorem dX10_change_25 : decode cX10_change 25 = .ok (.ifCond .eq 18, 3) := by decide +kernel
theorem dX10_change_28 : decode cX10_change 28 = .ok (.iload 4, 2) := by decide +kernel
theorem dX10_change_30 : decode cX10_change 30 = .ok (.iconst (-1), 1) := by decide +kernel
theorem dX10_change_31 : decode cX10_change 31 = .ok (.if_icmp .eq 14, 3) := by decide +kernel
theorem dX10_change_34 : decode cX10_change 34 = .ok (.aload_n 0, 1) := by decide +kernel
theorem dX10_change_35 : decode cX10_change 35 = .ok (.iload 4, 2) := by decide +kernel
theorem dX10_change_37 : decode cX10_change 37 = .ok (.invokevirtual 147, 3) := by decide +kernel
theorem dX10_change_40 : decode cX10_change 40 = .ok (.ifCond .ne 5, 3) := by decide +kernel
theorem dX10_change_43 : decode cX10_change 43 = .ok (.iconst (-1), 1) := by decide +kernel
theorem dX10_change_44 : decode cX10_change 44 = .ok (.ireturn, 1) := by decide +kernel
theorem dX10_change_45 : decode cX10_change 45 = .ok (.aload_n 0, 1) := by decide +kernel
theorem dX10_change_46 : decode cX10_change 46 = .ok (.getfield 25, 3) := by decide +kernel
theorem dX10_change_49 : decode cX10_change 49 = .ok (.iload_n 1, 1) := by decide +kernel
theorem dX10_change_50 : decode cX10_change 50 = .ok (.iaload, 1) := by decide +kernel
theorem dX10_change_51 : decode cX10_change 51 = .ok (.bipush (-9), 2) := by decide +kernel
theorem dX10_change_53 : decode cX10_change 53 = .ok (.if_icmp .eq 17, 3) := by decide +kernel
theorem dX10_change_56 : decode cX10_change 56 = .ok (.aload_n 0, 1) := by decide +kernel
theorem dX10_change_57 : decode cX10_change 57 = .ok (.getfield 25, 3) := by decide +kernel
theorem dX10_change_60 : decode cX10_change 60 = .ok (.iload_n 1, 1) := by decide +kernel
theorem dX10_change_61 : decode cX10_change 61 = .ok (.iaload, 1) := by decide +kernel
theorem dX10_change_62 : decode cX10_change 62 = .ok (.iload_n 2, 1) := by decide +kernel
theorem dX10_change_63 : decode cX10_change 63 = .ok (.if_icmp .eq 7, 3) := by decide +kernel
theorem dX10_change_66 : decode cX10_change 66 = .ok (.iconst 1, 1) := by decide +kernel
theorem dX10_change_67 : decode cX10_change 67 = .ok (.goto 4, 3) := by decide +kernel
theorem dX10_change_70 : decode cX10_change 70 = .ok (.iconst 0, 1) := by decide +kernel
theorem dX10_change_71 : decode cX10_change 71 = .ok (.istore 5, 2) := by decide +kernel
theorem dX10_change_73 : decode cX10_change 73 = .ok (.iconst 0, 1) := by decide +kernel
theorem dX10_change_74 : decode cX10_change 74 = .ok (.istore 6, 2) := by decide +kernel
theorem dX10_change_76 : decode cX10_change 76 = .ok (.iload 6, 2) := by decide +kernel
theorem dX10_change_78 : decode cX10_change 78 = .ok (.aload_n 0, 1) := by decide +kernel
theorem dX10_change_79 : decode cX10_change 79 = .ok (.getfield 138, 3) := by decide +kernel
theorem dX10_change_82 : decode cX10_change 82 = .ok (.if_icmp .ge 33, 3) := by decide +kernel
theorem dX10_change_85 : decode cX10_change 85 = .ok (.iload 5, 2) := by decide +kernel
theorem dX10_change_87 : decode cX10_change 87 = .ok (.ifCond .ne 15, 3) := by decide +kernel
theorem dX10_change_90 : decode cX10_change 90 = .ok (.aload_n 0, 1) := by decide +kernel
theorem dX10_change_91 : decode cX10_change 91 = .ok (.getfield 31, 3) := by decide +kernel
theorem dX10_change_94 : decode cX10_change 94 = .ok (.iload 6, 2) := by decide +kernel
theorem dX10_change_96 : decode cX10_change 96 = .ok (.iaload, 1) := by decide +kernel
theorem dX10_change_97 : decode cX10_change 97 = .ok (.bipush (-9), 2) := by decide +kernel
theorem dX10_change_99 : decode cX10_change 99 = .ok (.if_icmp .ne 7, 3) := by decide +kernel
theorem dX10_change_102 : decode cX10_change 102 = .ok (.iconst 1, 1) := by decide +kernel
theorem dX10_change_103 : decode cX10_change 103 = .ok (.goto 4, 3) := by decide +kernel
theorem dX10_change_106 : decode cX10_change 106 = .ok (.iconst 0, 1) := by decide +kernel
theorem dX10_change_107 : decode cX10_change 107 = .ok (.istore 5, 2) := by decide +kernel
theorem dX10_change_109 : decode cX10_change 109 = .ok (.iinc 6 1, 3) := by decide +kernel
theorem dX10_change_112 : decode cX10_change 112 = .ok (.goto (-36), 3) := by decide +kernel
theorem dX10_change_115 : decode cX10_change 115 = .ok (.iload 5, 2) := by decide +kernel
theorem dX10_change_117 : decode cX10_change 117 = .ok (.ifCond .eq 6, 3) := by decide +kernel
theorem dX10_change_120 : decode cX10_change 120 = .ok (.bipush (-2), 2) := by decide +kernel
theorem dX10_change_122 : decode cX10_change 122 = .ok (.ireturn, 1) := by decide +kernel
theorem dX10_change_123 : decode cX10_change 123 = .ok (.aload_n 0, 1) := by decide +kernel
theorem dX10_change_124 : decode cX10_change 124 = .ok (.bipush (-9), 2) := by decide +kernel
theorem dX10_change_126 : decode cX10_change 126 = .ok (.putfield 208, 3) := by decide +kernel
theorem dX10_change_129 : decode cX10_change 129 = .ok (.aload_n 0, 1) := by decide +kernel
theorem dX10_change_130 : decode cX10_change 130 = .ok (.invokevirtual 172, 3) := by decide +kernel
theorem dX10_change_133 : decode cX10_change 133 = .ok (.istore 6, 2) := by decide +kernel
theorem dX10_change_135 : decode cX10_change 135 = .ok (.iload 6, 2) := by decide +kernel
theorem dX10_change_137 : decode cX10_change 137 = .ok (.ifCond .eq 112, 3) := by decide +kernel
theorem dX10_change_140 : decode cX10_change 140 = .ok (.iconst 0, 1) := by decide +kernel
theorem dX10_change_141 : decode cX10_change 141 = .ok (.istore 7, 2) := by decide +kernel
theorem dX10_change_143 : decode cX10_change 143 = .ok (.iconst 0, 1) := by decide +kernel
theorem dX10_change_144 : decode cX10_change 144 = .ok (.istore 8, 2) := by decide +kernel
theorem dX10_change_146 : decode cX10_change 146 = .ok (.iload 8, 2) := by decide +kernel
theorem dX10_change_148 : decode cX10_change 148 = .ok (.aload_n 0, 1) := by decide +kernel
theorem dX10_change_149 : decode cX10_change 149 = .ok (.getfield 138, 3) := by decide +kernel
theorem dX10_change_152 : decode cX10_change 152 = .ok (.if_icmp .ge 42, 3) := by decide +kernel
theorem dX10_change_155 : decode cX10_change 155 = .ok (.iload 7, 2) := by decide +kernel
theorem dX10_change_157 : decode cX10_change 157 = .ok (.iload 8, 2) := by decide +kernel
theorem dX10_change_159 : decode cX10_change 159 = .ok (.iload_n 1, 1) := by decide +kernel
theorem dX10_change_160 : decode cX10_change 160 = .ok (.if_icmp .eq 24, 3) := by decide +kernel
theorem dX10_change_163 : decode cX10_change 163 = .ok (.aload_n 0, 1) := by decide +kernel
theorem dX10_change_164 : decode cX10_change 164 = .ok (.getfield 41, 3) := by decide +kernel
theorem dX10_change_167 : decode cX10_change 167 = .ok (.iload 8, 2) := by decide +kernel
theorem dX10_change_169 : decode cX10_change 169 = .ok (.iaload, 1) := by decide +kernel
theorem dX10_change_170 : decode cX10_change 170 = .ok (.aload_n 0, 1) := by decide +kernel
theorem dX10_change_171 : decode cX10_change 171 = .ok (.getfield 31, 3) := by decide +kernel
theorem dX10_change_174 : decode cX10_change 174 = .ok (.iload 8, 2) := by decide +kernel
theorem dX10_change_176 : decode cX10_change 176 = .ok (.iaload, 1) := by decide +kernel
theorem dX10_change_177 : decode cX10_change 177 = .ok (.if_icmp .eq 7, 3) := by decide +kernel
theorem dX10_change_180 : decode cX10_change 180 = .ok (.iconst 1, 1) := by decide +kernel
theorem dX10_change_181 : decode cX10_change 181 = .ok (.goto 4, 3) := by decide +kernel
theorem dX10_change_184 : decode cX10_change 184 = .ok (.iconst 0, 1) := by decide +kernel
theorem dX10_change_185 : decode cX10_change 185 = .ok (.iadd, 1) := by decide +kernel
theorem dX10_change_186 : decode cX10_change 186 = .ok (.istore 7, 2) := by decide +kernel
theorem dX10_change_188 : decode cX10_change 188 = .ok (.iinc 8 1, 3) := by decide +kernel
theorem dX10_change_191 : decode cX10_change 191 = .ok (.goto (-45), 3) := by decide +kernel
theorem dX10_change_194 : decode cX10_change 194 = .ok (.aload_n 0, 1) := by decide +kernel
theorem dX10_change_195 : decode cX10_change 195 = .ok (.getfield 41, 3) := by decide +kernel
theorem dX10_change_198 : decode cX10_change 198 = .ok (.iload_n 1, 1) := by decide +kernel
theorem dX10_change_199 : decode cX10_change 199 = .ok (.iaload, 1) := by decide +kernel
theorem dX10_change_200 : decode cX10_change 200 = .ok (.iload_n 2, 1) := by decide +kernel
theorem dX10_change_201 : decode cX10_change 201 = .ok (.if_icmp .ne 39, 3) := by decide +kernel
theorem dX10_change_204 : decode cX10_change 204 = .ok (.aload_n 0, 1) := by decide +kernel
theorem dX10_change_205 : decode cX10_change 205 = .ok (.getfield 208, 3) := by decide +kernel
theorem dX10_change_208 : decode cX10_change 208 = .ok (.bipush (-9), 2) := by decide +kernel
theorem dX10_change_210 : decode cX10_change 210 = .ok (.if_icmp .eq 12, 3) := by decide +kernel
theorem dX10_change_213 : decode cX10_change 213 = .ok (.iload 7, 2) := by decide +kernel
theorem dX10_change_215 : decode cX10_change 215 = .ok (.aload_n 0, 1) := by decide +kernel
theorem dX10_change_216 : decode cX10_change 216 = .ok (.getfield 208, 3) := by decide +kernel
theorem dX10_change_219 : decode cX10_change 219 = .ok (.if_icmp .ge 21, 3) := by decide +kernel
theorem dX10_change_222 : decode cX10_change 222 = .ok (.aload_n 0, 1) := by decide +kernel
theorem dX10_change_223 : decode cX10_change 223 = .ok (.iload_n 3, 1) := by decide +kernel
theorem dX10_change_224 : decode cX10_change 224 = .ok (.invokevirtual 169, 3) := by decide +kernel
theorem dX10_change_227 : decode cX10_change 227 = .ok (.ifCond .ne 13, 3) := by decide +kernel
theorem dX10_change_230 : decode cX10_change 230 = .ok (.aload_n 0, 1) := by decide +kernel
theorem dX10_change_231 : decode cX10_change 231 = .ok (.iload 7, 2) := by decide +kernel
theorem dX10_change_233 : decode cX10_change 233 = .ok (.putfield 208, 3) := by decide +kernel
theorem dX10_change_236 : decode cX10_change 236 = .ok (.aload_n 0, 1) := by decide +kernel
theorem dX10_change_237 : decode cX10_change 237 = .ok (.invokevirtual 179, 3) := by decide +kernel
theorem dX10_change_240 : decode cX10_change 240 = .ok (.aload_n 0, 1) := by decide +kernel
theorem dX10_change_241 : decode cX10_change 241 = .ok (.invokevirtual 182, 3) := by decide +kernel
theorem dX10_change_244 : decode cX10_change 244 = .ok (.istore 6, 2) := by decide +kernel
theorem dX10_change_246 : decode cX10_change 246 = .ok (.goto (-111), 3) := by decide +kernel
theorem dX10_change_249 : decode cX10_change 249 = .ok (.aload_n 0, 1) := by decide +kernel
theorem dX10_change_250 : decode cX10_change 250 = .ok (.getfield 208, 3) := by decide +kernel
theorem dX10_change_253 : decode cX10_change 253 = .ok (.bipush (-9), 2) := by decide +kernel
theorem dX10_change_255 : decode cX10_change 255 = .ok (.if_icmp .eq 8, 3) := by decide +kernel
theorem dX10_change_258 : decode cX10_change 258 = .ok (.iload 4, 2) := by decide +kernel
theorem dX10_change_260 : decode cX10_change 260 = .ok (.ifCond .ge 10, 3) := by decide +kernel
theorem dX10_change_263 : decode cX10_change 263 = .ok (.aload_n 0, 1) := by decide +kernel
theorem dX10_change_264 : decode cX10_change 264 = .ok (.getfield 208, 3) := by decide +kernel
theorem dX10_change_267 : decode cX10_change 267 = .ok (.goto 10, 3) := by decide +kernel
theorem dX10_change_270 : decode cX10_change 270 = .ok (.aload_n 0, 1) := by decide +kernel
theorem dX10_change_271 : decode cX10_change 271 = .ok (.getfield 44, 3) := by decide +kernel
theorem dX10_change_274 : decode cX10_change 274 = .ok (.iload 4, 2) := by decide +kernel
theorem dX10_change_276 : decode cX10_change 276 = .ok (.iaload, 1) := by decide +kernel
theorem dX10_change_277 : decode cX10_change 277 = .ok (.ireturn, 1) := by decide +kernel
set_option maxRecDepth 20000 in
theorem ggX10_pays_X10_isHouse : GoodIn wsX10_pays wsX10_isHouse := goodIn_r _ [10, 3, 11, 12, 9, 13, 23, 24, 25, 26, 27, 28, 29, 30, 31, 32, 33, 34, 35, 36, 37, 38, 39, 40, 41, 42, 43, 44, 45, 46, 47, 48, 49, 50, 51, 52, 53] (by decide +kernel) (by decide +kernel)
set_option maxRecDepth 20000 in
theorem gX10_pays_X10_isHouse : GoodIn wsX10_pays (wsV RX10 147 RX10 yX10_isHouse wsX10_isHouse) := goodIn_app (goodIn_of _ (by decide +kernel)) ggX10_pays_X10_isHouse
set_option maxRecDepth 20000 in
theorem ggX10_pays_X10_touch : GoodIn wsX10_pays wsX10_touch := goodIn_r _ [17, 18, 19, 20, 21, 9, 22, 23, 24, 25, 26, 27, 28, 29, 30, 31, 32, 33, 34, 35, 36, 37, 38, 39, 40, 41, 42, 43, 44, 45, 46, 47, 48, 49, 50, 51, 52, 53] (by decide +kernel) (by decide +kernel)
set_option maxRecDepth 20000 in
theorem gX10_pays_X10_touch : GoodIn wsX10_pays (wsV RX10 144 RX10 yX10_touch wsX10_touch) := goodIn_app (goodIn_of _ (by decide +kernel)) ggX10_pays_X10_touch
theorem dX10_pays_0 : decode cX10_pays 0 = .ok (.aload_n 0, 1) := by decide +kernel
theorem dX10_pays_1 : decode cX10_pays 1 = .ok (.iconst 0, 1) := by decide +kernel
theorem dX10_pays_2 : decode cX10_pays 2 = .ok (.putfield 50, 3) := by decide +kernel
theorem dX10_pays_5 : decode cX10_pays 5 = .ok (.aload_n 0, 1) := by decide +kernel
theorem dX10_pays_6 : decode cX10_pays 6 = .ok (.iload_n 1, 1) := by decide +kernel
theorem dX10_pays_7 : decode cX10_pays 7 = .ok (.invokevirtual 147, 3) := by decide +kernel
theorem dX10_pays_10 : decode cX10_pays 10 = .ok (.ifCond .ne 6, 3) := by decide +kernel
theorem dX10_pays_13 : decode cX10_pays 13 = .ok (.ldc 204, 2) := by decide +kernel
theorem dX10_pays_15 : decode cX10_pays 15 = .ok (.ireturn, 1) := by decide +kernel
theorem dX10_pays_16 : decode cX10_pays 16 = .ok (.iconst 0, 1) := by decide +kernel
theorem dX10_pays_17 : decode cX10_pays 17 = .ok (.istore_n 2, 1) := by decide +kernel
theorem dX10_pays_18 : decode cX10_pays 18 = .ok (.iconst 0, 1) := by decide +kernel
theorem dX10_pays_19 : decode cX10_pays 19 = .ok (.istore_n 3, 1) := by decide +kernel
theorem dX10_pays_20 : decode cX10_pays 20 = .ok (.iload_n 3, 1) := by decide +kernel
theorem dX10_pays_21 : decode cX10_pays 21 = .ok (.aload_n 0, 1) := by decide +kernel
theorem dX10_pays_22 : decode cX10_pays 22 = .ok (.getfield 138, 3) := by decide +kernel
theorem dX10_pays_25 : decode cX10_pays 25 = .ok (.if_icmp .ge 68, 3) := by decide +kernel
theorem dX10_pays_28 : decode cX10_pays 28 = .ok (.aload_n 0, 1) := by decide +kernel
theorem dX10_pays_29 : decode cX10_pays 29 = .ok (.iload_n 1, 1) := by decide +kernel
theorem dX10_pays_30 : decode cX10_pays 30 = .ok (.iload_n 3, 1) := by decide +kernel
theorem dX10_pays_31 : decode cX10_pays 31 = .ok (.invokevirtual 144, 3) := by decide +kernel
theorem dX10_pays_34 : decode cX10_pays 34 = .ok (.ifCond .eq 53, 3) := by decide +kernel
theorem dX10_pays_37 : decode cX10_pays 37 = .ok (.aload_n 0, 1) := by decide +kernel
theorem dX10_pays_38 : decode cX10_pays 38 = .ok (.getfield 31, 3) := by decide +kernel
theorem dX10_pays_41 : decode cX10_pays 41 = .ok (.iload_n 1, 1) := by decide +kernel
theorem dX10_pays_42 : decode cX10_pays 42 = .ok (.iaload, 1) := by decide +kernel
theorem dX10_pays_43 : decode cX10_pays 43 = .ok (.bipush (-9), 2) := by decide +kernel
theorem dX10_pays_45 : decode cX10_pays 45 = .ok (.if_icmp .eq 42, 3) := by decide +kernel
theorem dX10_pays_48 : decode cX10_pays 48 = .ok (.aload_n 0, 1) := by decide +kernel
theorem dX10_pays_49 : decode cX10_pays 49 = .ok (.getfield 31, 3) := by decide +kernel
theorem dX10_pays_52 : decode cX10_pays 52 = .ok (.iload_n 3, 1) := by decide +kernel
theorem dX10_pays_53 : decode cX10_pays 53 = .ok (.iaload, 1) := by decide +kernel
theorem dX10_pays_54 : decode cX10_pays 54 = .ok (.bipush (-9), 2) := by decide +kernel
theorem dX10_pays_56 : decode cX10_pays 56 = .ok (.if_icmp .eq 31, 3) := by decide +kernel
theorem dX10_pays_59 : decode cX10_pays 59 = .ok (.iload_n 2, 1) := by decide +kernel
theorem dX10_pays_60 : decode cX10_pays 60 = .ok (.aload_n 0, 1) := by decide +kernel
theorem dX10_pays_61 : decode cX10_pays 61 = .ok (.getfield 13, 3) := by decide +kernel
theorem dX10_pays_64 : decode cX10_pays 64 = .ok (.aload_n 0, 1) := by decide +kernel
theorem dX10_pays_65 : decode cX10_pays 65 = .ok (.getfield 31, 3) := by decide +kernel
theorem dX10_pays_68 : decode cX10_pays 68 = .ok (.iload_n 1, 1) := by decide +kernel
theorem dX10_pays_69 : decode cX10_pays 69 = .ok (.iaload, 1) := by decide +kernel
theorem dX10_pays_70 : decode cX10_pays 70 = .ok (.iaload, 1) := by decide +kernel
theorem dX10_pays_71 : decode cX10_pays 71 = .ok (.aload_n 0, 1) := by decide +kernel
theorem dX10_pays_72 : decode cX10_pays 72 = .ok (.getfield 13, 3) := by decide +kernel
theorem dX10_pays_75 : decode cX10_pays 75 = .ok (.aload_n 0, 1) := by decide +kernel
theorem dX10_pays_76 : decode cX10_pays 76 = .ok (.getfield 31, 3) := by decide +kernel
theorem dX10_pays_79 : decode cX10_pays 79 = .ok (.iload_n 3, 1) := by decide +kernel
theorem dX10_pays_80 : decode cX10_pays 80 = .ok (.iaload, 1) := by decide +kernel
theorem dX10_pays_81 : decode cX10_pays 81 = .ok (.iaload, 1) := by decide +kernel
theorem dX10_pays_82 : decode cX10_pays 82 = .ok (.isub, 1) := by decide +kernel
theorem dX10_pays_83 : decode cX10_pays 83 = .ok (.iconst 2, 1) := by decide +kernel
theorem dX10_pays_84 : decode cX10_pays 84 = .ok (.idiv, 1) := by decide +kernel
theorem dX10_pays_85 : decode cX10_pays 85 = .ok (.iadd, 1) := by decide +kernel
theorem dX10_pays_86 : decode cX10_pays 86 = .ok (.istore_n 2, 1) := by decide +kernel
theorem dX10_pays_87 : decode cX10_pays 87 = .ok (.iinc 3 1, 3) := by decide +kernel
theorem dX10_pays_90 : decode cX10_pays 90 = .ok (.goto (-70), 3) := by decide +kernel
theorem dX10_pays_93 : decode cX10_pays 93 = .ok (.iload_n 2, 1) := by decide +kernel
theorem dX10_pays_94 : decode cX10_pays 94 = .ok (.ireturn, 1) := by decide +kernel
set_option maxRecDepth 20000 in
theorem ggX10_order_X10_isBit : GoodIn wsX10_order wsX10_isBit := goodIn_r _ [7, 8, 9, 6, 10] (by decide +kernel) (by decide +kernel)
set_option maxRecDepth 20000 in
theorem gX10_order_X10_isBit : GoodIn wsX10_order (va_wsS RX10 163 yX10_isBit wsX10_isBit) := goodIn_app (goodIn_of _ (by decide +kernel)) ggX10_order_X10_isBit
set_option maxRecDepth 20000 in
theorem ggX10_order_X10_triesNow : GoodIn wsX10_order wsX10_triesNow := goodIn_r _ [14, 15, 3, 37, 38, 39, 40, 41, 42, 43, 44, 45, 46, 47, 48, 49, 50, 51, 52, 53, 54, 55, 56, 57, 58, 59, 60, 61, 62, 63, 64, 65, 66, 67] (by decide +kernel) (by decide +kernel)
set_option maxRecDepth 20000 in
theorem gX10_order_X10_triesNow : GoodIn wsX10_order (wsV RX10 166 RX10 yX10_triesNow wsX10_triesNow) := goodIn_app (goodIn_of _ (by decide +kernel)) ggX10_order_X10_triesNow
set_option maxRecDepth 20000 in
theorem ggX10_order_X10_breachesOf : GoodIn wsX10_order wsX10_breachesOf := goodIn_r _ [19, 2, 20, 21, 22, 6, 23, 15, 24, 25, 26, 27, 28, 29, 30, 31, 32, 33, 34, 35, 36, 37, 38, 39, 40, 41, 42, 43, 44, 45, 46, 47, 48, 49, 50, 51, 52, 53, 54, 55, 56, 57, 58, 59, 60, 61, 62, 63, 64, 65, 66, 67] (by decide +kernel) (by decide +kernel)
set_option maxRecDepth 20000 in
theorem gX10_order_X10_breachesOf : GoodIn wsX10_order (wsV RX10 169 RX10 yX10_breachesOf wsX10_breachesOf) := goodIn_app (goodIn_of _ (by decide +kernel)) ggX10_order_X10_breachesOf
theorem dX10_order_0 : decode cX10_order 0 = .ok (.aload_n 0, 1) := by decide +kernel
theorem dX10_order_1 : decode cX10_order 1 = .ok (.iconst 0, 1) := by decide +kernel
theorem dX10_order_2 : decode cX10_order 2 = .ok (.putfield 50, 3) := by decide +kernel
theorem dX10_order_5 : decode cX10_order 5 = .ok (.iload_n 2, 1) := by decide +kernel
theorem dX10_order_6 : decode cX10_order 6 = .ok (.invokestatic 163, 3) := by decide +kernel
theorem dX10_order_9 : decode cX10_order 9 = .ok (.ifCond .eq 7, 3) := by decide +kernel
theorem dX10_order_12 : decode cX10_order 12 = .ok (.iload_n 3, 1) := by decide +kernel
theorem dX10_order_13 : decode cX10_order 13 = .ok (.ifCond .ge 5, 3) := by decide +kernel
theorem dX10_order_16 : decode cX10_order 16 = .ok (.iconst (-1), 1) := by decide +kernel
theorem dX10_order_17 : decode cX10_order 17 = .ok (.ireturn, 1) := by decide +kernel
theorem dX10_order_18 : decode cX10_order 18 = .ok (.aload_n 0, 1) := by decide +kernel
theorem dX10_order_19 : decode cX10_order 19 = .ok (.invokevirtual 166, 3) := by decide +kernel
theorem dX10_order_22 : decode cX10_order 22 = .ok (.aload_n 0, 1) := by decide +kernel
theorem dX10_order_23 : decode cX10_order 23 = .ok (.iload_n 2, 1) := by decide +kernel
theorem dX10_order_24 : decode cX10_order 24 = .ok (.invokevirtual 169, 3) := by decide +kernel
theorem dX10_order_27 : decode cX10_order 27 = .ok (.ifCond .le 6, 3) := by decide +kernel
theorem dX10_order_30 : decode cX10_order 30 = .ok (.bipush (-9), 2) := by decide +kernel
theorem dX10_order_32 : decode cX10_order 32 = .ok (.ireturn, 1) := by decide +kernel
theorem dX10_order_33 : decode cX10_order 33 = .ok (.iconst 0, 1) := by decide +kernel
theorem dX10_order_34 : decode cX10_order 34 = .ok (.istore 4, 2) := by decide +kernel
theorem dX10_order_36 : decode cX10_order 36 = .ok (.iconst 0, 1) := by decide +kernel
theorem dX10_order_37 : decode cX10_order 37 = .ok (.istore 5, 2) := by decide +kernel
theorem dX10_order_39 : decode cX10_order 39 = .ok (.iload 5, 2) := by decide +kernel
theorem dX10_order_41 : decode cX10_order 41 = .ok (.aload_n 0, 1) := by decide +kernel
theorem dX10_order_42 : decode cX10_order 42 = .ok (.getfield 138, 3) := by decide +kernel
theorem dX10_order_45 : decode cX10_order 45 = .ok (.if_icmp .ge 42, 3) := by decide +kernel
theorem dX10_order_48 : decode cX10_order 48 = .ok (.iload_n 1, 1) := by decide +kernel
theorem dX10_order_49 : decode cX10_order 49 = .ok (.iload 5, 2) := by decide +kernel
theorem dX10_order_51 : decode cX10_order 51 = .ok (.ishr, 1) := by decide +kernel
theorem dX10_order_52 : decode cX10_order 52 = .ok (.iconst 1, 1) := by decide +kernel
theorem dX10_order_53 : decode cX10_order 53 = .ok (.iand, 1) := by decide +kernel
theorem dX10_order_54 : decode cX10_order 54 = .ok (.ifCond .ne 27, 3) := by decide +kernel
theorem dX10_order_57 : decode cX10_order 57 = .ok (.aload_n 0, 1) := by decide +kernel
theorem dX10_order_58 : decode cX10_order 58 = .ok (.getfield 31, 3) := by decide +kernel
theorem dX10_order_61 : decode cX10_order 61 = .ok (.iload 5, 2) := by decide +kernel
theorem dX10_order_63 : decode cX10_order 63 = .ok (.iaload, 1) := by decide +kernel
theorem dX10_order_64 : decode cX10_order 64 = .ok (.bipush (-9), 2) := by decide +kernel
theorem dX10_order_66 : decode cX10_order 66 = .ok (.if_icmp .eq 15, 3) := by decide +kernel
theorem dX10_order_69 : decode cX10_order 69 = .ok (.iload 4, 2) := by decide +kernel
theorem dX10_order_71 : decode cX10_order 71 = .ok (.iload_n 3, 1) := by decide +kernel
theorem dX10_order_72 : decode cX10_order 72 = .ok (.if_icmp .ne 6, 3) := by decide +kernel
theorem dX10_order_75 : decode cX10_order 75 = .ok (.iload 5, 2) := by decide +kernel
theorem dX10_order_77 : decode cX10_order 77 = .ok (.ireturn, 1) := by decide +kernel
theorem dX10_order_78 : decode cX10_order 78 = .ok (.iinc 4 1, 3) := by decide +kernel
theorem dX10_order_81 : decode cX10_order 81 = .ok (.iinc 5 1, 3) := by decide +kernel
theorem dX10_order_84 : decode cX10_order 84 = .ok (.goto (-45), 3) := by decide +kernel
theorem dX10_order_87 : decode cX10_order 87 = .ok (.bipush (-5), 2) := by decide +kernel
theorem dX10_order_89 : decode cX10_order 89 = .ok (.ireturn, 1) := by decide +kernel
theorem dX10_draws_0 : decode cX10_draws 0 = .ok (.aload_n 0, 1) := by decide +kernel
theorem dX10_draws_1 : decode cX10_draws 1 = .ok (.getfield 31, 3) := by decide +kernel
theorem dX10_draws_4 : decode cX10_draws 4 = .ok (.bipush 9, 2) := by decide +kernel
theorem dX10_draws_6 : decode cX10_draws 6 = .ok (.aload_n 0, 1) := by decide +kernel
theorem dX10_draws_7 : decode cX10_draws 7 = .ok (.getfield 31, 3) := by decide +kernel
theorem dX10_draws_10 : decode cX10_draws 10 = .ok (.bipush 9, 2) := by decide +kernel
theorem dX10_draws_12 : decode cX10_draws 12 = .ok (.iaload, 1) := by decide +kernel
theorem dX10_draws_13 : decode cX10_draws 13 = .ok (.ldc 211, 2) := by decide +kernel
theorem dX10_draws_15 : decode cX10_draws 15 = .ok (.imul, 1) := by decide +kernel
theorem dX10_draws_16 : decode cX10_draws 16 = .ok (.sipush 12345, 3) := by decide +kernel
theorem dX10_draws_19 : decode cX10_draws 19 = .ok (.iadd, 1) := by decide +kernel
theorem dX10_draws_20 : decode cX10_draws 20 = .ok (.iastore, 1) := by decide +kernel
theorem dX10_draws_21 : decode cX10_draws 21 = .ok (.aload_n 0, 1) := by decide +kernel
theorem dX10_draws_22 : decode cX10_draws 22 = .ok (.getfield 31, 3) := by decide +kernel
theorem dX10_draws_25 : decode cX10_draws 25 = .ok (.bipush 9, 2) := by decide +kernel
theorem dX10_draws_27 : decode cX10_draws 27 = .ok (.iaload, 1) := by decide +kernel
theorem dX10_draws_28 : decode cX10_draws 28 = .ok (.bipush 16, 2) := by decide +kernel
theorem dX10_draws_30 : decode cX10_draws 30 = .ok (.ishr, 1) := by decide +kernel
theorem dX10_draws_31 : decode cX10_draws 31 = .ok (.ldc 212, 2) := by decide +kernel
theorem dX10_draws_33 : decode cX10_draws 33 = .ok (.iand, 1) := by decide +kernel
theorem dX10_draws_34 : decode cX10_draws 34 = .ok (.iload_n 1, 1) := by decide +kernel
theorem dX10_draws_35 : decode cX10_draws 35 = .ok (.irem, 1) := by decide +kernel
theorem dX10_draws_36 : decode cX10_draws 36 = .ok (.ireturn, 1) := by decide +kernel
set_option maxRecDepth 20000 in
theorem ggX10_lostIn_X10_canBurn : GoodIn wsX10_lostIn wsX10_canBurn := goodIn_r _ [6, 7, 8, 31, 32, 33, 34, 35, 36, 37, 38, 39, 40, 41, 42, 43, 44, 45, 46, 47, 48, 49, 50, 51, 52, 53, 54, 55, 56, 57, 58, 59, 60, 61] (by decide +kernel) (by decide +kernel)
set_option maxRecDepth 20000 in
theorem gX10_lostIn_X10_canBurn : GoodIn wsX10_lostIn (wsV RX10 197 RX10 yX10_canBurn wsX10_canBurn) := goodIn_app (goodIn_of _ (by decide +kernel)) ggX10_lostIn_X10_canBurn
set_option maxRecDepth 20000 in
theorem ggX10_lostIn_X10_burns : GoodIn wsX10_lostIn wsX10_burns := goodIn_r _ [12, 13, 14, 8, 7, 15, 1, 16, 17, 18, 19, 20, 5, 21, 22, 23, 24, 25, 26, 27, 28, 29, 30, 31, 32, 33, 34, 35, 36, 37, 38, 39, 40, 41, 42, 43, 44, 45, 46, 47, 48, 49, 50, 51, 52, 53, 54, 55, 56, 57, 58, 59, 60, 61] (by decide +kernel) (by decide +kernel)
set_option maxRecDepth 20000 in
theorem gX10_lostIn_X10_burns : GoodIn wsX10_lostIn (wsV RX10 200 RX10 yX10_burns wsX10_burns) := goodIn_app (goodIn_of _ (by decide +kernel)) ggX10_lostIn_X10_burns
theorem dX10_lostIn_0 : decode cX10_lostIn 0 = .ok (.aload_n 0, 1) := by decide +kernel
theorem dX10_lostIn_1 : decode cX10_lostIn 1 = .ok (.iload_n 1, 1) := by decide +kernel
theorem dX10_lostIn_2 : decode cX10_lostIn 2 = .ok (.invokevirtual 197, 3) := by decide +kernel
theorem dX10_lostIn_5 : decode cX10_lostIn 5 = .ok (.ifCond .ne 5, 3) := by decide +kernel
theorem dX10_lostIn_8 : decode cX10_lostIn 8 = .ok (.iconst 0, 1) := by decide +kernel
theorem dX10_lostIn_9 : decode cX10_lostIn 9 = .ok (.ireturn, 1) := by decide +kernel
theorem dX10_lostIn_10 : decode cX10_lostIn 10 = .ok (.aload_n 0, 1) := by decide +kernel
theorem dX10_lostIn_11 : decode cX10_lostIn 11 = .ok (.iload_n 1, 1) := by decide +kernel
theorem dX10_lostIn_12 : decode cX10_lostIn 12 = .ok (.iload_n 2, 1) := by decide +kernel
theorem dX10_lostIn_13 : decode cX10_lostIn 13 = .ok (.invokevirtual 200, 3) := by decide +kernel
theorem dX10_lostIn_16 : decode cX10_lostIn 16 = .ok (.aload_n 0, 1) := by decide +kernel
theorem dX10_lostIn_17 : decode cX10_lostIn 17 = .ok (.getfield 191, 3) := by decide +kernel
theorem dX10_lostIn_20 : decode cX10_lostIn 20 = .ok (.ireturn, 1) := by decide +kernel
set_option maxRecDepth 20000 in
theorem ggX10_years_X10_in : GoodIn wsX10_years wsX10_in := goodIn_r _ [8] (by decide +kernel) (by decide +kernel)
set_option maxRecDepth 20000 in
theorem gX10_years_X10_in : GoodIn wsX10_years (va_wsS RX10 54 yX10_in wsX10_in) := goodIn_app (goodIn_of _ (by decide +kernel)) ggX10_years_X10_in
set_option maxRecDepth 20000 in
theorem ggX10_years_X10_isSort : GoodIn wsX10_years wsX10_isSort := goodIn_r _ [12, 13, 5, 6, 7, 8, 56, 57, 58, 59, 60, 61, 62, 63, 64, 65, 66, 67, 68, 69, 70, 71, 72, 73, 74, 75, 76, 77, 78, 79, 80, 81, 82, 83, 84, 85, 86] (by decide +kernel) (by decide +kernel)
set_option maxRecDepth 20000 in
theorem gX10_years_X10_isSort : GoodIn wsX10_years (wsV RX10 154 RX10 yX10_isSort wsX10_isSort) := goodIn_app (goodIn_of _ (by decide +kernel)) ggX10_years_X10_isSort
set_option maxRecDepth 20000 in
theorem ggX10_years_X10_draws : GoodIn wsX10_years wsX10_draws := goodIn_r _ [17, 18, 19, 20, 56, 57, 58, 59, 60, 61, 62, 63, 64, 65, 66, 67, 68, 69, 70, 71, 72, 73, 74, 75, 76, 77, 78, 79, 80, 81, 82, 83, 84, 85, 86] (by decide +kernel) (by decide +kernel)
set_option maxRecDepth 20000 in
theorem gX10_years_X10_draws : GoodIn wsX10_years (wsV RX10 213 RX10 yX10_draws wsX10_draws) := goodIn_app (goodIn_of _ (by decide +kernel)) ggX10_years_X10_draws
set_option maxRecDepth 20000 in
theorem ggX10_years_X10_triesNow : GoodIn wsX10_years wsX10_triesNow := goodIn_r _ [24, 4, 18, 56, 57, 58, 59, 60, 61, 62, 63, 64, 65, 66, 67, 68, 69, 70, 71, 72, 73, 74, 75, 76, 77, 78, 79, 80, 81, 82, 83, 84, 85, 86] (by decide +kernel) (by decide +kernel)
set_option maxRecDepth 20000 in
theorem gX10_years_X10_triesNow : GoodIn wsX10_years (wsV RX10 166 RX10 yX10_triesNow wsX10_triesNow) := goodIn_app (goodIn_of _ (by decide +kernel)) ggX10_years_X10_triesNow
set_option maxRecDepth 20000 in
theorem ggX10_years_X10_lostIn : GoodIn wsX10_years wsX10_lostIn := goodIn_r _ [28, 29, 30, 31, 32, 7, 33, 4, 34, 35, 36, 37, 38, 39, 2, 40, 41, 42, 43, 44, 45, 46, 47, 48, 49, 50, 51, 52, 53, 54, 55, 56, 57, 58, 59, 60, 61, 62, 63, 64, 65, 66, 67, 68, 69, 70, 71, 72, 73, 74, 75, 76, 77, 78, 79, 80, 81, 82, 83, 84, 85, 86] (by decide +kernel) (by decide +kernel)
set_option maxRecDepth 20000 in
theorem gX10_years_X10_lostIn : GoodIn wsX10_years (wsV RX10 216 RX10 yX10_lostIn wsX10_lostIn) := goodIn_app (goodIn_of _ (by decide +kernel)) ggX10_years_X10_lostIn
theorem dX10_years_0 : decode cX10_years 0 = .ok (.aload_n 0, 1) := by decide +kernel
theorem dX10_years_1 : decode cX10_years 1 = .ok (.iconst 0, 1) := by decide +kernel
theorem dX10_years_2 : decode cX10_years 2 = .ok (.putfield 50, 3) := by decide +kernel
theorem dX10_years_5 : decode cX10_years 5 = .ok (.iload_n 1, 1) := by decide +kernel
theorem dX10_years_6 : decode cX10_years 6 = .ok (.iconst 1, 1) := by decide +kernel
theorem dX10_years_7 : decode cX10_years 7 = .ok (.bipush 99, 2) := by decide +kernel
theorem dX10_years_9 : decode cX10_years 9 = .ok (.invokestatic 54, 3) := by decide +kernel
theorem dX10_years_12 : decode cX10_years 12 = .ok (.ifCond .eq 18, 3) := by decide +kernel
theorem dX10_years_15 : decode cX10_years 15 = .ok (.aload_n 0, 1) := by decide +kernel
theorem dX10_years_16 : decode cX10_years 16 = .ok (.iload_n 2, 1) := by decide +kernel
theorem dX10_years_17 : decode cX10_years 17 = .ok (.invokevirtual 154, 3) := by decide +kernel
theorem dX10_years_20 : decode cX10_years 20 = .ok (.ifCond .eq 10, 3) := by decide +kernel
theorem dX10_years_23 : decode cX10_years 23 = .ok (.aload_n 0, 1) := by decide +kernel
theorem dX10_years_24 : decode cX10_years 24 = .ok (.getfield 138, 3) := by decide +kernel
theorem dX10_years_27 : decode cX10_years 27 = .ok (.ifCond .ne 6, 3) := by decide +kernel
theorem dX10_years_30 : decode cX10_years 30 = .ok (.ldc 204, 2) := by decide +kernel
theorem dX10_years_32 : decode cX10_years 32 = .ok (.ireturn, 1) := by decide +kernel
theorem dX10_years_33 : decode cX10_years 33 = .ok (.iconst 0, 1) := by decide +kernel
theorem dX10_years_34 : decode cX10_years 34 = .ok (.istore_n 3, 1) := by decide +kernel
theorem dX10_years_35 : decode cX10_years 35 = .ok (.iconst 0, 1) := by decide +kernel
theorem dX10_years_36 : decode cX10_years 36 = .ok (.istore 4, 2) := by decide +kernel
theorem dX10_years_38 : decode cX10_years 38 = .ok (.iload 4, 2) := by decide +kernel
theorem dX10_years_40 : decode cX10_years 40 = .ok (.iload_n 1, 1) := by decide +kernel
theorem dX10_years_41 : decode cX10_years 41 = .ok (.if_icmp .ge 78, 3) := by decide +kernel
theorem dX10_years_44 : decode cX10_years 44 = .ok (.aload_n 0, 1) := by decide +kernel
theorem dX10_years_45 : decode cX10_years 45 = .ok (.aload_n 0, 1) := by decide +kernel
theorem dX10_years_46 : decode cX10_years 46 = .ok (.getfield 138, 3) := by decide +kernel
theorem dX10_years_49 : decode cX10_years 49 = .ok (.invokevirtual 213, 3) := by decide +kernel
theorem dX10_years_52 : decode cX10_years 52 = .ok (.istore 5, 2) := by decide +kernel
theorem dX10_years_54 : decode cX10_years 54 = .ok (.aload_n 0, 1) := by decide +kernel
theorem dX10_years_55 : decode cX10_years 55 = .ok (.iconst 5, 1) := by decide +kernel
theorem dX10_years_56 : decode cX10_years 56 = .ok (.invokevirtual 213, 3) := by decide +kernel
theorem dX10_years_59 : decode cX10_years 59 = .ok (.istore 6, 2) := by decide +kernel
theorem dX10_years_61 : decode cX10_years 61 = .ok (.aload_n 0, 1) := by decide +kernel
theorem dX10_years_62 : decode cX10_years 62 = .ok (.invokevirtual 166, 3) := by decide +kernel
theorem dX10_years_65 : decode cX10_years 65 = .ok (.iload_n 3, 1) := by decide +kernel
theorem dX10_years_66 : decode cX10_years 66 = .ok (.aload_n 0, 1) := by decide +kernel
theorem dX10_years_67 : decode cX10_years 67 = .ok (.iload 5, 2) := by decide +kernel
theorem dX10_years_69 : decode cX10_years 69 = .ok (.iload 6, 2) := by decide +kernel
theorem dX10_years_71 : decode cX10_years 71 = .ok (.invokevirtual 216, 3) := by decide +kernel
theorem dX10_years_74 : decode cX10_years 74 = .ok (.isub, 1) := by decide +kernel
theorem dX10_years_75 : decode cX10_years 75 = .ok (.istore_n 3, 1) := by decide +kernel
theorem dX10_years_76 : decode cX10_years 76 = .ok (.iconst 0, 1) := by decide +kernel
theorem dX10_years_77 : decode cX10_years 77 = .ok (.istore 7, 2) := by decide +kernel
theorem dX10_years_79 : decode cX10_years 79 = .ok (.iload 7, 2) := by decide +kernel
theorem dX10_years_81 : decode cX10_years 81 = .ok (.aload_n 0, 1) := by decide +kernel
theorem dX10_years_82 : decode cX10_years 82 = .ok (.getfield 138, 3) := by decide +kernel
theorem dX10_years_85 : decode cX10_years 85 = .ok (.if_icmp .ge 17, 3) := by decide +kernel
theorem dX10_years_88 : decode cX10_years 88 = .ok (.aload_n 0, 1) := by decide +kernel
theorem dX10_years_89 : decode cX10_years 89 = .ok (.getfield 41, 3) := by decide +kernel
theorem dX10_years_92 : decode cX10_years 92 = .ok (.iload 7, 2) := by decide +kernel
theorem dX10_years_94 : decode cX10_years 94 = .ok (.iload_n 2, 1) := by decide +kernel
theorem dX10_years_95 : decode cX10_years 95 = .ok (.iastore, 1) := by decide +kernel
theorem dX10_years_96 : decode cX10_years 96 = .ok (.iinc 7 1, 3) := by decide +kernel
theorem dX10_years_99 : decode cX10_years 99 = .ok (.goto (-20), 3) := by decide +kernel
theorem dX10_years_102 : decode cX10_years 102 = .ok (.iload_n 3, 1) := by decide +kernel
theorem dX10_years_103 : decode cX10_years 103 = .ok (.aload_n 0, 1) := by decide +kernel
theorem dX10_years_104 : decode cX10_years 104 = .ok (.iload 5, 2) := by decide +kernel
theorem dX10_years_106 : decode cX10_years 106 = .ok (.iload 6, 2) := by decide +kernel
theorem dX10_years_108 : decode cX10_years 108 = .ok (.invokevirtual 216, 3) := by decide +kernel
theorem dX10_years_111 : decode cX10_years 111 = .ok (.iadd, 1) := by decide +kernel
theorem dX10_years_112 : decode cX10_years 112 = .ok (.istore_n 3, 1) := by decide +kernel
theorem dX10_years_113 : decode cX10_years 113 = .ok (.iinc 4 1, 3) := by decide +kernel
theorem dX10_years_116 : decode cX10_years 116 = .ok (.goto (-78), 3) := by decide +kernel
theorem dX10_years_119 : decode cX10_years 119 = .ok (.iload_n 3, 1) := by decide +kernel
theorem dX10_years_120 : decode cX10_years 120 = .ok (.ireturn, 1) := by decide +kernel
theorem dX10_lot_0 : decode cX10_lot 0 = .ok (.aload_n 0, 1) := by decide +kernel
theorem dX10_lot_1 : decode cX10_lot 1 = .ok (.iconst 0, 1) := by decide +kernel
theorem dX10_lot_2 : decode cX10_lot 2 = .ok (.putfield 50, 3) := by decide +kernel
theorem dX10_lot_5 : decode cX10_lot 5 = .ok (.aload_n 0, 1) := by decide +kernel
theorem dX10_lot_6 : decode cX10_lot 6 = .ok (.getfield 31, 3) := by decide +kernel
theorem dX10_lot_9 : decode cX10_lot 9 = .ok (.bipush 9, 2) := by decide +kernel
theorem dX10_lot_11 : decode cX10_lot 11 = .ok (.iaload, 1) := by decide +kernel
theorem dX10_lot_12 : decode cX10_lot 12 = .ok (.istore_n 2, 1) := by decide +kernel
theorem dX10_lot_13 : decode cX10_lot 13 = .ok (.aload_n 0, 1) := by decide +kernel
theorem dX10_lot_14 : decode cX10_lot 14 = .ok (.getfield 31, 3) := by decide +kernel
theorem dX10_lot_17 : decode cX10_lot 17 = .ok (.bipush 9, 2) := by decide +kernel
theorem dX10_lot_19 : decode cX10_lot 19 = .ok (.iload_n 1, 1) := by decide +kernel
theorem dX10_lot_20 : decode cX10_lot 20 = .ok (.iastore, 1) := by decide +kernel
theorem dX10_lot_21 : decode cX10_lot 21 = .ok (.iload_n 2, 1) := by decide +kernel
theorem dX10_lot_22 : decode cX10_lot 22 = .ok (.ireturn, 1) := by decide +kernel
set_option maxRecDepth 20000 in
theorem ggX10_rate_X10_in : GoodIn wsX10_rate wsX10_in := goodIn_r _ [15] (by decide +kernel) (by decide +kernel)
set_option maxRecDepth 20000 in
theorem gX10_rate_X10_in : GoodIn wsX10_rate (va_wsS RX10 54 yX10_in wsX10_in) := goodIn_app (goodIn_of _ (by decide +kernel)) ggX10_rate_X10_in
set_option maxRecDepth 20000 in
theorem ggX10_rate_X10_isHouse : GoodIn wsX10_rate wsX10_isHouse := goodIn_r _ [19, 20, 12, 13, 14, 15, 34, 35, 36, 37, 38, 39, 40, 41, 42, 43, 44, 45, 46, 47, 48, 49, 50, 51, 52, 53, 54, 55, 56, 57, 58, 59, 60, 61, 62, 63, 64] (by decide +kernel) (by decide +kernel)
set_option maxRecDepth 20000 in
theorem gX10_rate_X10_isHouse : GoodIn wsX10_rate (wsV RX10 147 RX10 yX10_isHouse wsX10_isHouse) := goodIn_app (goodIn_of _ (by decide +kernel)) ggX10_rate_X10_isHouse
set_option maxRecDepth 20000 in
theorem ggX10_rate_X10_touchesOf : GoodIn wsX10_rate wsX10_touchesOf := goodIn_r _ [24, 20, 25, 26, 27, 14, 28, 29, 30, 31, 32, 33, 34, 35, 36, 37, 38, 39, 40, 41, 42, 43, 44, 45, 46, 47, 48, 49, 50, 51, 52, 53, 54, 55, 56, 57, 58, 59, 60, 61, 62, 63, 64] (by decide +kernel) (by decide +kernel)
set_option maxRecDepth 20000 in
theorem gX10_rate_X10_touchesOf : GoodIn wsX10_rate (wsV RX10 151 RX10 yX10_touchesOf wsX10_touchesOf) := goodIn_app (goodIn_of _ (by decide +kernel)) ggX10_rate_X10_touchesOf
theorem dX10_rate_0 : decode cX10_rate 0 = .ok (.aload_n 0, 1) := by decide +kernel
theorem dX10_rate_1 : decode cX10_rate 1 = .ok (.iconst 0, 1) := by decide +kernel
theorem dX10_rate_2 : decode cX10_rate 2 = .ok (.putfield 50, 3) := by decide +kernel
theorem dX10_rate_5 : decode cX10_rate 5 = .ok (.iload_n 1, 1) := by decide +kernel
theorem dX10_rate_6 : decode cX10_rate 6 = .ok (.iconst 0, 1) := by decide +kernel
theorem dX10_rate_7 : decode cX10_rate 7 = .ok (.iconst 5, 1) := by decide +kernel
theorem dX10_rate_8 : decode cX10_rate 8 = .ok (.invokestatic 54, 3) := by decide +kernel
theorem dX10_rate_11 : decode cX10_rate 11 = .ok (.ifCond .eq 11, 3) := by decide +kernel
theorem dX10_rate_14 : decode cX10_rate 14 = .ok (.aload_n 0, 1) := by decide +kernel
theorem dX10_rate_15 : decode cX10_rate 15 = .ok (.iload_n 2, 1) := by decide +kernel
theorem dX10_rate_16 : decode cX10_rate 16 = .ok (.invokevirtual 147, 3) := by decide +kernel
theorem dX10_rate_19 : decode cX10_rate 19 = .ok (.ifCond .ne 6, 3) := by decide +kernel
theorem dX10_rate_22 : decode cX10_rate 22 = .ok (.ldc 204, 2) := by decide +kernel
theorem dX10_rate_24 : decode cX10_rate 24 = .ok (.ireturn, 1) := by decide +kernel
theorem dX10_rate_25 : decode cX10_rate 25 = .ok (.aload_n 0, 1) := by decide +kernel
theorem dX10_rate_26 : decode cX10_rate 26 = .ok (.getfield 31, 3) := by decide +kernel
theorem dX10_rate_29 : decode cX10_rate 29 = .ok (.iload_n 2, 1) := by decide +kernel
theorem dX10_rate_30 : decode cX10_rate 30 = .ok (.iaload, 1) := by decide +kernel
theorem dX10_rate_31 : decode cX10_rate 31 = .ok (.bipush (-9), 2) := by decide +kernel
theorem dX10_rate_33 : decode cX10_rate 33 = .ok (.if_icmp .ne 7, 3) := by decide +kernel
theorem dX10_rate_36 : decode cX10_rate 36 = .ok (.iconst 0, 1) := by decide +kernel
theorem dX10_rate_37 : decode cX10_rate 37 = .ok (.goto 14, 3) := by decide +kernel
theorem dX10_rate_40 : decode cX10_rate 40 = .ok (.aload_n 0, 1) := by decide +kernel
theorem dX10_rate_41 : decode cX10_rate 41 = .ok (.getfield 13, 3) := by decide +kernel
theorem dX10_rate_44 : decode cX10_rate 44 = .ok (.aload_n 0, 1) := by decide +kernel
theorem dX10_rate_45 : decode cX10_rate 45 = .ok (.getfield 31, 3) := by decide +kernel
theorem dX10_rate_48 : decode cX10_rate 48 = .ok (.iload_n 2, 1) := by decide +kernel
theorem dX10_rate_49 : decode cX10_rate 49 = .ok (.iaload, 1) := by decide +kernel
theorem dX10_rate_50 : decode cX10_rate 50 = .ok (.iaload, 1) := by decide +kernel
theorem dX10_rate_51 : decode cX10_rate 51 = .ok (.istore_n 3, 1) := by decide +kernel
theorem dX10_rate_52 : decode cX10_rate 52 = .ok (.iload_n 3, 1) := by decide +kernel
theorem dX10_rate_53 : decode cX10_rate 53 = .ok (.aload_n 0, 1) := by decide +kernel
theorem dX10_rate_54 : decode cX10_rate 54 = .ok (.getfield 31, 3) := by decide +kernel
theorem dX10_rate_57 : decode cX10_rate 57 = .ok (.iload_n 2, 1) := by decide +kernel
theorem dX10_rate_58 : decode cX10_rate 58 = .ok (.iaload, 1) := by decide +kernel
theorem dX10_rate_59 : decode cX10_rate 59 = .ok (.bipush (-9), 2) := by decide +kernel
theorem dX10_rate_61 : decode cX10_rate 61 = .ok (.if_icmp .ne 7, 3) := by decide +kernel
theorem dX10_rate_64 : decode cX10_rate 64 = .ok (.iconst 0, 1) := by decide +kernel
theorem dX10_rate_65 : decode cX10_rate 65 = .ok (.goto 14, 3) := by decide +kernel
theorem dX10_rate_68 : decode cX10_rate 68 = .ok (.aload_n 0, 1) := by decide +kernel
theorem dX10_rate_69 : decode cX10_rate 69 = .ok (.getfield 16, 3) := by decide +kernel
theorem dX10_rate_72 : decode cX10_rate 72 = .ok (.aload_n 0, 1) := by decide +kernel
theorem dX10_rate_73 : decode cX10_rate 73 = .ok (.getfield 31, 3) := by decide +kernel
theorem dX10_rate_76 : decode cX10_rate 76 = .ok (.iload_n 2, 1) := by decide +kernel
theorem dX10_rate_77 : decode cX10_rate 77 = .ok (.iaload, 1) := by decide +kernel
theorem dX10_rate_78 : decode cX10_rate 78 = .ok (.iaload, 1) := by decide +kernel
theorem dX10_rate_79 : decode cX10_rate 79 = .ok (.iadd, 1) := by decide +kernel
theorem dX10_rate_80 : decode cX10_rate 80 = .ok (.istore 4, 2) := by decide +kernel
theorem dX10_rate_82 : decode cX10_rate 82 = .ok (.iload_n 3, 1) := by decide +kernel
theorem dX10_rate_83 : decode cX10_rate 83 = .ok (.aload_n 0, 1) := by decide +kernel
theorem dX10_rate_84 : decode cX10_rate 84 = .ok (.iload_n 2, 1) := by decide +kernel
theorem dX10_rate_85 : decode cX10_rate 85 = .ok (.invokevirtual 151, 3) := by decide +kernel
theorem dX10_rate_88 : decode cX10_rate 88 = .ok (.isub, 1) := by decide +kernel
theorem dX10_rate_89 : decode cX10_rate 89 = .ok (.istore 5, 2) := by decide +kernel
theorem dX10_rate_91 : decode cX10_rate 91 = .ok (.aload_n 0, 1) := by decide +kernel
theorem dX10_rate_92 : decode cX10_rate 92 = .ok (.dup, 1) := by decide +kernel
theorem dX10_rate_93 : decode cX10_rate 93 = .ok (.getfield 219, 3) := by decide +kernel
theorem dX10_rate_96 : decode cX10_rate 96 = .ok (.iload_n 1, 1) := by decide +kernel
theorem dX10_rate_97 : decode cX10_rate 97 = .ok (.ifCond .ne 7, 3) := by decide +kernel
theorem dX10_rate_100 : decode cX10_rate 100 = .ok (.lconst 1, 1) := by decide +kernel
theorem dX10_rate_101 : decode cX10_rate 101 = .ok (.goto 50, 3) := by decide +kernel
theorem dX10_rate_104 : decode cX10_rate 104 = .ok (.iload_n 1, 1) := by decide +kernel
theorem dX10_rate_105 : decode cX10_rate 105 = .ok (.iconst 1, 1) := by decide +kernel
theorem dX10_rate_106 : decode cX10_rate 106 = .ok (.if_icmp .ne 9, 3) := by decide +kernel
theorem dX10_rate_109 : decode cX10_rate 109 = .ok (.ldc2_w 223, 3) := by decide +kernel
theorem dX10_rate_112 : decode cX10_rate 112 = .ok (.goto 39, 3) := by decide +kernel
theorem dX10_rate_115 : decode cX10_rate 115 = .ok (.iload_n 1, 1) := by decide +kernel
theorem dX10_rate_116 : decode cX10_rate 116 = .ok (.iconst 2, 1) := by decide +kernel
theorem dX10_rate_117 : decode cX10_rate 117 = .ok (.if_icmp .ne 9, 3) := by decide +kernel
theorem dX10_rate_120 : decode cX10_rate 120 = .ok (.ldc2_w 225, 3) := by decide +kernel
theorem dX10_rate_123 : decode cX10_rate 123 = .ok (.goto 28, 3) := by decide +kernel
theorem dX10_rate_126 : decode cX10_rate 126 = .ok (.iload_n 1, 1) := by decide +kernel
theorem dX10_rate_127 : decode cX10_rate 127 = .ok (.iconst 3, 1) := by decide +kernel
theorem dX10_rate_128 : decode cX10_rate 128 = .ok (.if_icmp .ne 9, 3) := by decide +kernel
theorem dX10_rate_131 : decode cX10_rate 131 = .ok (.ldc2_w 227, 3) := by decide +kernel
theorem dX10_rate_134 : decode cX10_rate 134 = .ok (.goto 17, 3) := by decide +kernel
theorem dX10_rate_137 : decode cX10_rate 137 = .ok (.iload_n 1, 1) := by decide +kernel
theorem dX10_rate_138 : decode cX10_rate 138 = .ok (.iconst 4, 1) := by decide +kernel
theorem dX10_rate_139 : decode cX10_rate 139 = .ok (.if_icmp .ne 9, 3) := by decide +kernel
theorem dX10_rate_142 : decode cX10_rate 142 = .ok (.ldc2_w 229, 3) := by decide +kernel
theorem dX10_rate_145 : decode cX10_rate 145 = .ok (.goto 6, 3) := by decide +kernel
theorem dX10_rate_148 : decode cX10_rate 148 = .ok (.ldc2_w 231, 3) := by decide +kernel
theorem dX10_rate_151 : decode cX10_rate 151 = .ok (.ladd, 1) := by decide +kernel
theorem dX10_rate_152 : decode cX10_rate 152 = .ok (.putfield 219, 3) := by decide +kernel
theorem dX10_rate_155 : decode cX10_rate 155 = .ok (.iload_n 1, 1) := by decide +kernel
theorem dX10_rate_156 : decode cX10_rate 156 = .ok (.ifCond .ne 7, 3) := by decide +kernel
theorem dX10_rate_159 : decode cX10_rate 159 = .ok (.iload_n 3, 1) := by decide +kernel
theorem dX10_rate_160 : decode cX10_rate 160 = .ok (.goto 56, 3) := by decide +kernel
theorem dX10_rate_163 : decode cX10_rate 163 = .ok (.iload_n 1, 1) := by decide +kernel
theorem dX10_rate_164 : decode cX10_rate 164 = .ok (.iconst 1, 1) := by decide +kernel
theorem dX10_rate_165 : decode cX10_rate 165 = .ok (.if_icmp .ne 8, 3) := by decide +kernel
theorem dX10_rate_168 : decode cX10_rate 168 = .ok (.iload 4, 2) := by decide +kernel
theorem dX10_rate_170 : decode cX10_rate 170 = .ok (.goto 46, 3) := by decide +kernel
theorem dX10_rate_173 : decode cX10_rate 173 = .ok (.iload_n 1, 1) := by decide +kernel
theorem dX10_rate_174 : decode cX10_rate 174 = .ok (.iconst 2, 1) := by decide +kernel
theorem dX10_rate_175 : decode cX10_rate 175 = .ok (.if_icmp .ne 8, 3) := by decide +kernel
theorem dX10_rate_178 : decode cX10_rate 178 = .ok (.iload 5, 2) := by decide +kernel
theorem dX10_rate_180 : decode cX10_rate 180 = .ok (.goto 36, 3) := by decide +kernel
theorem dX10_rate_183 : decode cX10_rate 183 = .ok (.iload_n 1, 1) := by decide +kernel
theorem dX10_rate_184 : decode cX10_rate 184 = .ok (.iconst 3, 1) := by decide +kernel
theorem dX10_rate_185 : decode cX10_rate 185 = .ok (.if_icmp .ne 10, 3) := by decide +kernel
theorem dX10_rate_188 : decode cX10_rate 188 = .ok (.iconst 2, 1) := by decide +kernel
theorem dX10_rate_189 : decode cX10_rate 189 = .ok (.iload 4, 2) := by decide +kernel
theorem dX10_rate_191 : decode cX10_rate 191 = .ok (.imul, 1) := by decide +kernel
theorem dX10_rate_192 : decode cX10_rate 192 = .ok (.goto 24, 3) := by decide +kernel
theorem dX10_rate_195 : decode cX10_rate 195 = .ok (.iload_n 1, 1) := by decide +kernel
theorem dX10_rate_196 : decode cX10_rate 196 = .ok (.iconst 4, 1) := by decide +kernel
theorem dX10_rate_197 : decode cX10_rate 197 = .ok (.if_icmp .ne 16, 3) := by decide +kernel
theorem dX10_rate_200 : decode cX10_rate 200 = .ok (.iload 5, 2) := by decide +kernel
theorem dX10_rate_202 : decode cX10_rate 202 = .ok (.aload_n 0, 1) := by decide +kernel
theorem dX10_rate_203 : decode cX10_rate 203 = .ok (.getfield 31, 3) := by decide +kernel
theorem dX10_rate_206 : decode cX10_rate 206 = .ok (.bipush 8, 2) := by decide +kernel
theorem dX10_rate_208 : decode cX10_rate 208 = .ok (.iaload, 1) := by decide +kernel
theorem dX10_rate_209 : decode cX10_rate 209 = .ok (.iadd, 1) := by decide +kernel
theorem dX10_rate_210 : decode cX10_rate 210 = .ok (.goto 6, 3) := by decide +kernel
theorem dX10_rate_213 : decode cX10_rate 213 = .ok (.iload_n 3, 1) := by decide +kernel
theorem dX10_rate_214 : decode cX10_rate 214 = .ok (.iload_n 2, 1) := by decide +kernel
theorem dX10_rate_215 : decode cX10_rate 215 = .ok (.isub, 1) := by decide +kernel
theorem dX10_rate_216 : decode cX10_rate 216 = .ok (.ireturn, 1) := by decide +kernel
set_option maxRecDepth 20000 in
theorem ggX10_keep_X10_in : GoodIn wsX10_keep wsX10_in := goodIn_r _ [8] (by decide +kernel) (by decide +kernel)
set_option maxRecDepth 20000 in
theorem gX10_keep_X10_in : GoodIn wsX10_keep (va_wsS RX10 54 yX10_in wsX10_in) := goodIn_app (goodIn_of _ (by decide +kernel)) ggX10_keep_X10_in
theorem dX10_keep_0 : decode cX10_keep 0 = .ok (.aload_n 0, 1) := by decide +kernel
theorem dX10_keep_1 : decode cX10_keep 1 = .ok (.iconst 0, 1) := by decide +kernel
theorem dX10_keep_2 : decode cX10_keep 2 = .ok (.putfield 50, 3) := by decide +kernel
theorem dX10_keep_5 : decode cX10_keep 5 = .ok (.iload_n 1, 1) := by decide +kernel
theorem dX10_keep_6 : decode cX10_keep 6 = .ok (.iconst 0, 1) := by decide +kernel
theorem dX10_keep_7 : decode cX10_keep 7 = .ok (.iconst 1, 1) := by decide +kernel
theorem dX10_keep_8 : decode cX10_keep 8 = .ok (.invokestatic 54, 3) := by decide +kernel
theorem dX10_keep_11 : decode cX10_keep 11 = .ok (.ifCond .ne 5, 3) := by decide +kernel
theorem dX10_keep_14 : decode cX10_keep 14 = .ok (.iconst (-1), 1) := by decide +kernel
theorem dX10_keep_15 : decode cX10_keep 15 = .ok (.ireturn, 1) := by decide +kernel
theorem dX10_keep_16 : decode cX10_keep 16 = .ok (.iconst 0, 1) := by decide +kernel
theorem dX10_keep_17 : decode cX10_keep 17 = .ok (.istore_n 2, 1) := by decide +kernel
theorem dX10_keep_18 : decode cX10_keep 18 = .ok (.iload_n 2, 1) := by decide +kernel
theorem dX10_keep_19 : decode cX10_keep 19 = .ok (.bipush 27, 2) := by decide +kernel
theorem dX10_keep_21 : decode cX10_keep 21 = .ok (.if_icmp .ge 26, 3) := by decide +kernel
theorem dX10_keep_24 : decode cX10_keep 24 = .ok (.aload_n 0, 1) := by decide +kernel
theorem dX10_keep_25 : decode cX10_keep 25 = .ok (.getfield 34, 3) := by decide +kernel
theorem dX10_keep_28 : decode cX10_keep 28 = .ok (.bipush 27, 2) := by decide +kernel
theorem dX10_keep_30 : decode cX10_keep 30 = .ok (.iload_n 1, 1) := by decide +kernel
theorem dX10_keep_31 : decode cX10_keep 31 = .ok (.imul, 1) := by decide +kernel
theorem dX10_keep_32 : decode cX10_keep 32 = .ok (.iload_n 2, 1) := by decide +kernel
theorem dX10_keep_33 : decode cX10_keep 33 = .ok (.iadd, 1) := by decide +kernel
theorem dX10_keep_34 : decode cX10_keep 34 = .ok (.aload_n 0, 1) := by decide +kernel
theorem dX10_keep_35 : decode cX10_keep 35 = .ok (.getfield 31, 3) := by decide +kernel
theorem dX10_keep_38 : decode cX10_keep 38 = .ok (.iload_n 2, 1) := by decide +kernel
theorem dX10_keep_39 : decode cX10_keep 39 = .ok (.iaload, 1) := by decide +kernel
theorem dX10_keep_40 : decode cX10_keep 40 = .ok (.iastore, 1) := by decide +kernel
theorem dX10_keep_41 : decode cX10_keep 41 = .ok (.iinc 2 1, 3) := by decide +kernel
theorem dX10_keep_44 : decode cX10_keep 44 = .ok (.goto (-26), 3) := by decide +kernel
theorem dX10_keep_47 : decode cX10_keep 47 = .ok (.aload_n 0, 1) := by decide +kernel
theorem dX10_keep_48 : decode cX10_keep 48 = .ok (.getfield 37, 3) := by decide +kernel
theorem dX10_keep_51 : decode cX10_keep 51 = .ok (.iload_n 1, 1) := by decide +kernel
theorem dX10_keep_52 : decode cX10_keep 52 = .ok (.iconst 1, 1) := by decide +kernel
theorem dX10_keep_53 : decode cX10_keep 53 = .ok (.bastore, 1) := by decide +kernel
theorem dX10_keep_54 : decode cX10_keep 54 = .ok (.aload_n 0, 1) := by decide +kernel
theorem dX10_keep_55 : decode cX10_keep 55 = .ok (.getfield 31, 3) := by decide +kernel
theorem dX10_keep_58 : decode cX10_keep 58 = .ok (.bipush 10, 2) := by decide +kernel
theorem dX10_keep_60 : decode cX10_keep 60 = .ok (.iaload, 1) := by decide +kernel
theorem dX10_keep_61 : decode cX10_keep 61 = .ok (.ireturn, 1) := by decide +kernel
set_option maxRecDepth 20000 in
theorem ggX10_back_X10_in : GoodIn wsX10_back wsX10_in := goodIn_r _ [8] (by decide +kernel) (by decide +kernel)
set_option maxRecDepth 20000 in
theorem gX10_back_X10_in : GoodIn wsX10_back (va_wsS RX10 54 yX10_in wsX10_in) := goodIn_app (goodIn_of _ (by decide +kernel)) ggX10_back_X10_in
theorem dX10_back_0 : decode cX10_back 0 = .ok (.aload_n 0, 1) := by decide +kernel
theorem dX10_back_1 : decode cX10_back 1 = .ok (.iconst 0, 1) := by decide +kernel
theorem dX10_back_2 : decode cX10_back 2 = .ok (.putfield 50, 3) := by decide +kernel
theorem dX10_back_5 : decode cX10_back 5 = .ok (.iload_n 1, 1) := by decide +kernel
theorem dX10_back_6 : decode cX10_back 6 = .ok (.iconst 0, 1) := by decide +kernel
theorem dX10_back_7 : decode cX10_back 7 = .ok (.iconst 1, 1) := by decide +kernel
theorem dX10_back_8 : decode cX10_back 8 = .ok (.invokestatic 54, 3) := by decide +kernel
theorem dX10_back_11 : decode cX10_back 11 = .ok (.ifCond .ne 5, 3) := by decide +kernel
theorem dX10_back_14 : decode cX10_back 14 = .ok (.iconst (-1), 1) := by decide +kernel
theorem dX10_back_15 : decode cX10_back 15 = .ok (.ireturn, 1) := by decide +kernel
theorem dX10_back_16 : decode cX10_back 16 = .ok (.aload_n 0, 1) := by decide +kernel
theorem dX10_back_17 : decode cX10_back 17 = .ok (.getfield 37, 3) := by decide +kernel
theorem dX10_back_20 : decode cX10_back 20 = .ok (.iload_n 1, 1) := by decide +kernel
theorem dX10_back_21 : decode cX10_back 21 = .ok (.baload, 1) := by decide +kernel
theorem dX10_back_22 : decode cX10_back 22 = .ok (.ifCond .ne 6, 3) := by decide +kernel
theorem dX10_back_25 : decode cX10_back 25 = .ok (.bipush (-2), 2) := by decide +kernel
theorem dX10_back_27 : decode cX10_back 27 = .ok (.ireturn, 1) := by decide +kernel
theorem dX10_back_28 : decode cX10_back 28 = .ok (.iconst 0, 1) := by decide +kernel
theorem dX10_back_29 : decode cX10_back 29 = .ok (.istore_n 2, 1) := by decide +kernel
theorem dX10_back_30 : decode cX10_back 30 = .ok (.iload_n 2, 1) := by decide +kernel
theorem dX10_back_31 : decode cX10_back 31 = .ok (.bipush 27, 2) := by decide +kernel
theorem dX10_back_33 : decode cX10_back 33 = .ok (.if_icmp .ge 26, 3) := by decide +kernel
theorem dX10_back_36 : decode cX10_back 36 = .ok (.aload_n 0, 1) := by decide +kernel
theorem dX10_back_37 : decode cX10_back 37 = .ok (.getfield 31, 3) := by decide +kernel
theorem dX10_back_40 : decode cX10_back 40 = .ok (.iload_n 2, 1) := by decide +kernel
theorem dX10_back_41 : decode cX10_back 41 = .ok (.aload_n 0, 1) := by decide +kernel
theorem dX10_back_42 : decode cX10_back 42 = .ok (.getfield 34, 3) := by decide +kernel
theorem dX10_back_45 : decode cX10_back 45 = .ok (.bipush 27, 2) := by decide +kernel
theorem dX10_back_47 : decode cX10_back 47 = .ok (.iload_n 1, 1) := by decide +kernel
theorem dX10_back_48 : decode cX10_back 48 = .ok (.imul, 1) := by decide +kernel
theorem dX10_back_49 : decode cX10_back 49 = .ok (.iload_n 2, 1) := by decide +kernel
theorem dX10_back_50 : decode cX10_back 50 = .ok (.iadd, 1) := by decide +kernel
theorem dX10_back_51 : decode cX10_back 51 = .ok (.iaload, 1) := by decide +kernel
theorem dX10_back_52 : decode cX10_back 52 = .ok (.iastore, 1) := by decide +kernel
theorem dX10_back_53 : decode cX10_back 53 = .ok (.iinc 2 1, 3) := by decide +kernel
theorem dX10_back_56 : decode cX10_back 56 = .ok (.goto (-26), 3) := by decide +kernel
theorem dX10_back_59 : decode cX10_back 59 = .ok (.aload_n 0, 1) := by decide +kernel
theorem dX10_back_60 : decode cX10_back 60 = .ok (.getfield 31, 3) := by decide +kernel
theorem dX10_back_63 : decode cX10_back 63 = .ok (.bipush 10, 2) := by decide +kernel
theorem dX10_back_65 : decode cX10_back 65 = .ok (.iaload, 1) := by decide +kernel
theorem dX10_back_66 : decode cX10_back 66 = .ok (.ireturn, 1) := by decide +kernel
set_option maxRecDepth 20000 in
theorem ggX10_count_X10_touchesOf : GoodIn wsX10_count wsX10_touchesOf := goodIn_r _ [10, 2, 11, 12, 13, 9, 14, 15, 16, 17, 18, 19, 20, 21, 22, 23, 24, 25, 26, 27, 28, 29, 30, 31, 32, 33, 34, 35, 36, 37, 38, 39, 40, 41, 42, 43, 44, 45, 46, 47, 48, 49, 50] (by decide +kernel) (by decide +kernel)
set_option maxRecDepth 20000 in
theorem gX10_count_X10_touchesOf : GoodIn wsX10_count (wsV RX10 151 RX10 yX10_touchesOf wsX10_touchesOf) := goodIn_app (goodIn_of _ (by decide +kernel)) ggX10_count_X10_touchesOf
theorem dX10_count_0 : decode cX10_count 0 = .ok (.aload_n 0, 1) := by decide +kernel
theorem dX10_count_1 : decode cX10_count 1 = .ok (.iconst 0, 1) := by decide +kernel
theorem dX10_count_2 : decode cX10_count 2 = .ok (.putfield 50, 3) := by decide +kernel
theorem dX10_count_5 : decode cX10_count 5 = .ok (.iconst 0, 1) := by decide +kernel
theorem dX10_count_6 : decode cX10_count 6 = .ok (.istore_n 2, 1) := by decide +kernel
theorem dX10_count_7 : decode cX10_count 7 = .ok (.iconst 0, 1) := by decide +kernel
theorem dX10_count_8 : decode cX10_count 8 = .ok (.istore_n 3, 1) := by decide +kernel
theorem dX10_count_9 : decode cX10_count 9 = .ok (.iconst 0, 1) := by decide +kernel
theorem dX10_count_10 : decode cX10_count 10 = .ok (.istore 4, 2) := by decide +kernel
theorem dX10_count_12 : decode cX10_count 12 = .ok (.iload 4, 2) := by decide +kernel
theorem dX10_count_14 : decode cX10_count 14 = .ok (.aload_n 0, 1) := by decide +kernel
theorem dX10_count_15 : decode cX10_count 15 = .ok (.getfield 138, 3) := by decide +kernel
theorem dX10_count_18 : decode cX10_count 18 = .ok (.if_icmp .ge 38, 3) := by decide +kernel
theorem dX10_count_21 : decode cX10_count 21 = .ok (.iload_n 2, 1) := by decide +kernel
theorem dX10_count_22 : decode cX10_count 22 = .ok (.aload_n 0, 1) := by decide +kernel
theorem dX10_count_23 : decode cX10_count 23 = .ok (.getfield 31, 3) := by decide +kernel
theorem dX10_count_26 : decode cX10_count 26 = .ok (.iload 4, 2) := by decide +kernel
theorem dX10_count_28 : decode cX10_count 28 = .ok (.iaload, 1) := by decide +kernel
theorem dX10_count_29 : decode cX10_count 29 = .ok (.bipush (-9), 2) := by decide +kernel
theorem dX10_count_31 : decode cX10_count 31 = .ok (.if_icmp .eq 7, 3) := by decide +kernel
theorem dX10_count_34 : decode cX10_count 34 = .ok (.iconst 1, 1) := by decide +kernel
theorem dX10_count_35 : decode cX10_count 35 = .ok (.goto 4, 3) := by decide +kernel
theorem dX10_count_38 : decode cX10_count 38 = .ok (.iconst 0, 1) := by decide +kernel
theorem dX10_count_39 : decode cX10_count 39 = .ok (.iadd, 1) := by decide +kernel
theorem dX10_count_40 : decode cX10_count 40 = .ok (.istore_n 2, 1) := by decide +kernel
theorem dX10_count_41 : decode cX10_count 41 = .ok (.iload_n 3, 1) := by decide +kernel
theorem dX10_count_42 : decode cX10_count 42 = .ok (.aload_n 0, 1) := by decide +kernel
theorem dX10_count_43 : decode cX10_count 43 = .ok (.iload 4, 2) := by decide +kernel
theorem dX10_count_45 : decode cX10_count 45 = .ok (.invokevirtual 151, 3) := by decide +kernel
theorem dX10_count_48 : decode cX10_count 48 = .ok (.iadd, 1) := by decide +kernel
theorem dX10_count_49 : decode cX10_count 49 = .ok (.istore_n 3, 1) := by decide +kernel
theorem dX10_count_50 : decode cX10_count 50 = .ok (.iinc 4 1, 3) := by decide +kernel
theorem dX10_count_53 : decode cX10_count 53 = .ok (.goto (-41), 3) := by decide +kernel
theorem dX10_count_56 : decode cX10_count 56 = .ok (.iload_n 1, 1) := by decide +kernel
theorem dX10_count_57 : decode cX10_count 57 = .ok (.ifCond .ne 10, 3) := by decide +kernel
theorem dX10_count_60 : decode cX10_count 60 = .ok (.aload_n 0, 1) := by decide +kernel
theorem dX10_count_61 : decode cX10_count 61 = .ok (.getfield 138, 3) := by decide +kernel
theorem dX10_count_64 : decode cX10_count 64 = .ok (.goto 63, 3) := by decide +kernel
theorem dX10_count_67 : decode cX10_count 67 = .ok (.iload_n 1, 1) := by decide +kernel
theorem dX10_count_68 : decode cX10_count 68 = .ok (.iconst 1, 1) := by decide +kernel
theorem dX10_count_69 : decode cX10_count 69 = .ok (.if_icmp .ne 10, 3) := by decide +kernel
theorem dX10_count_72 : decode cX10_count 72 = .ok (.aload_n 0, 1) := by decide +kernel
theorem dX10_count_73 : decode cX10_count 73 = .ok (.getfield 135, 3) := by decide +kernel
theorem dX10_count_76 : decode cX10_count 76 = .ok (.goto 51, 3) := by decide +kernel
theorem dX10_count_79 : decode cX10_count 79 = .ok (.iload_n 1, 1) := by decide +kernel
theorem dX10_count_80 : decode cX10_count 80 = .ok (.iconst 2, 1) := by decide +kernel
theorem dX10_count_81 : decode cX10_count 81 = .ok (.if_icmp .ne 7, 3) := by decide +kernel
theorem dX10_count_84 : decode cX10_count 84 = .ok (.iload_n 2, 1) := by decide +kernel
theorem dX10_count_85 : decode cX10_count 85 = .ok (.goto 42, 3) := by decide +kernel
theorem dX10_count_88 : decode cX10_count 88 = .ok (.iload_n 1, 1) := by decide +kernel
theorem dX10_count_89 : decode cX10_count 89 = .ok (.iconst 3, 1) := by decide +kernel
theorem dX10_count_90 : decode cX10_count 90 = .ok (.if_icmp .ne 9, 3) := by decide +kernel
theorem dX10_count_93 : decode cX10_count 93 = .ok (.iload_n 3, 1) := by decide +kernel
theorem dX10_count_94 : decode cX10_count 94 = .ok (.iconst 2, 1) := by decide +kernel
theorem dX10_count_95 : decode cX10_count 95 = .ok (.idiv, 1) := by decide +kernel
theorem dX10_count_96 : decode cX10_count 96 = .ok (.goto 31, 3) := by decide +kernel
theorem dX10_count_99 : decode cX10_count 99 = .ok (.iload_n 1, 1) := by decide +kernel
theorem dX10_count_100 : decode cX10_count 100 = .ok (.iconst 4, 1) := by decide +kernel
theorem dX10_count_101 : decode cX10_count 101 = .ok (.if_icmp .ne 13, 3) := by decide +kernel
theorem dX10_count_104 : decode cX10_count 104 = .ok (.aload_n 0, 1) := by decide +kernel
theorem dX10_count_105 : decode cX10_count 105 = .ok (.getfield 31, 3) := by decide +kernel
theorem dX10_count_108 : decode cX10_count 108 = .ok (.bipush 10, 2) := by decide +kernel
theorem dX10_count_110 : decode cX10_count 110 = .ok (.iaload, 1) := by decide +kernel
theorem dX10_count_111 : decode cX10_count 111 = .ok (.goto 16, 3) := by decide +kernel
theorem dX10_count_114 : decode cX10_count 114 = .ok (.iload_n 1, 1) := by decide +kernel
theorem dX10_count_115 : decode cX10_count 115 = .ok (.iconst 5, 1) := by decide +kernel
theorem dX10_count_116 : decode cX10_count 116 = .ok (.if_icmp .ne 10, 3) := by decide +kernel
theorem dX10_count_119 : decode cX10_count 119 = .ok (.aload_n 0, 1) := by decide +kernel
theorem dX10_count_120 : decode cX10_count 120 = .ok (.getfield 58, 3) := by decide +kernel
theorem dX10_count_123 : decode cX10_count 123 = .ok (.goto 4, 3) := by decide +kernel
theorem dX10_count_126 : decode cX10_count 126 = .ok (.iconst (-1), 1) := by decide +kernel
theorem dX10_count_127 : decode cX10_count 127 = .ok (.ireturn, 1) := by decide +kernel
theorem dX10_trace_0 : decode cX10_trace 0 = .ok (.aload_n 0, 1) := by decide +kernel
theorem dX10_trace_1 : decode cX10_trace 1 = .ok (.iconst 0, 1) := by decide +kernel
theorem dX10_trace_2 : decode cX10_trace 2 = .ok (.putfield 50, 3) := by decide +kernel
theorem dX10_trace_5 : decode cX10_trace 5 = .ok (.aload_n 0, 1) := by decide +kernel
theorem dX10_trace_6 : decode cX10_trace 6 = .ok (.getfield 219, 3) := by decide +kernel
theorem dX10_trace_9 : decode cX10_trace 9 = .ok (.lreturn, 1) := by decide +kernel
