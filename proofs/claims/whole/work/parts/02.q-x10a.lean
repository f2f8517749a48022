theorem dX10_init_0 : decode cX10_init 0 = .ok (.aload_n 0, 1) := by decide +kernel
theorem dX10_init_1 : decode cX10_init 1 = .ok (.invokespecial 1, 3) := by decide +kernel
theorem dX10_init_4 : decode cX10_init 4 = .ok (.aload_n 0, 1) := by decide +kernel
theorem dX10_init_5 : decode cX10_init 5 = .ok (.sipush 300, 3) := by decide +kernel
theorem dX10_init_8 : decode cX10_init 8 = .ok (.newarray .int, 2) := by decide +kernel
theorem dX10_init_10 : decode cX10_init 10 = .ok (.putfield 7, 3) := by decide +kernel
theorem dX10_init_13 : decode cX10_init 13 = .ok (.aload_n 0, 1) := by decide +kernel
theorem dX10_init_14 : decode cX10_init 14 = .ok (.bipush 8, 2) := by decide +kernel
theorem dX10_init_16 : decode cX10_init 16 = .ok (.newarray .int, 2) := by decide +kernel
theorem dX10_init_18 : decode cX10_init 18 = .ok (.putfield 13, 3) := by decide +kernel
theorem dX10_init_21 : decode cX10_init 21 = .ok (.aload_n 0, 1) := by decide +kernel
theorem dX10_init_22 : decode cX10_init 22 = .ok (.bipush 8, 2) := by decide +kernel
theorem dX10_init_24 : decode cX10_init 24 = .ok (.newarray .int, 2) := by decide +kernel
theorem dX10_init_26 : decode cX10_init 26 = .ok (.putfield 16, 3) := by decide +kernel
theorem dX10_init_29 : decode cX10_init 29 = .ok (.aload_n 0, 1) := by decide +kernel
theorem dX10_init_30 : decode cX10_init 30 = .ok (.bipush 16, 2) := by decide +kernel
theorem dX10_init_32 : decode cX10_init 32 = .ok (.newarray .int, 2) := by decide +kernel
theorem dX10_init_34 : decode cX10_init 34 = .ok (.putfield 19, 3) := by decide +kernel
theorem dX10_init_37 : decode cX10_init 37 = .ok (.aload_n 0, 1) := by decide +kernel
theorem dX10_init_38 : decode cX10_init 38 = .ok (.bipush 16, 2) := by decide +kernel
theorem dX10_init_40 : decode cX10_init 40 = .ok (.newarray .int, 2) := by decide +kernel
theorem dX10_init_42 : decode cX10_init 42 = .ok (.putfield 22, 3) := by decide +kernel
theorem dX10_init_45 : decode cX10_init 45 = .ok (.aload_n 0, 1) := by decide +kernel
theorem dX10_init_46 : decode cX10_init 46 = .ok (.bipush 16, 2) := by decide +kernel
theorem dX10_init_48 : decode cX10_init 48 = .ok (.newarray .int, 2) := by decide +kernel
theorem dX10_init_50 : decode cX10_init 50 = .ok (.putfield 25, 3) := by decide +kernel
theorem dX10_init_53 : decode cX10_init 53 = .ok (.aload_n 0, 1) := by decide +kernel
theorem dX10_init_54 : decode cX10_init 54 = .ok (.bipush 8, 2) := by decide +kernel
theorem dX10_init_56 : decode cX10_init 56 = .ok (.newarray .int, 2) := by decide +kernel
theorem dX10_init_58 : decode cX10_init 58 = .ok (.putfield 28, 3) := by decide +kernel
theorem dX10_init_61 : decode cX10_init 61 = .ok (.aload_n 0, 1) := by decide +kernel
theorem dX10_init_62 : decode cX10_init 62 = .ok (.bipush 27, 2) := by decide +kernel
theorem dX10_init_64 : decode cX10_init 64 = .ok (.newarray .int, 2) := by decide +kernel
theorem dX10_init_66 : decode cX10_init 66 = .ok (.putfield 31, 3) := by decide +kernel
theorem dX10_init_69 : decode cX10_init 69 = .ok (.aload_n 0, 1) := by decide +kernel
theorem dX10_init_70 : decode cX10_init 70 = .ok (.bipush 54, 2) := by decide +kernel
theorem dX10_init_72 : decode cX10_init 72 = .ok (.newarray .int, 2) := by decide +kernel
theorem dX10_init_74 : decode cX10_init 74 = .ok (.putfield 34, 3) := by decide +kernel
theorem dX10_init_77 : decode cX10_init 77 = .ok (.aload_n 0, 1) := by decide +kernel
theorem dX10_init_78 : decode cX10_init 78 = .ok (.iconst 2, 1) := by decide +kernel
theorem dX10_init_79 : decode cX10_init 79 = .ok (.newarray .boolean, 2) := by decide +kernel
theorem dX10_init_81 : decode cX10_init 81 = .ok (.putfield 37, 3) := by decide +kernel
theorem dX10_init_84 : decode cX10_init 84 = .ok (.aload_n 0, 1) := by decide +kernel
theorem dX10_init_85 : decode cX10_init 85 = .ok (.bipush 8, 2) := by decide +kernel
theorem dX10_init_87 : decode cX10_init 87 = .ok (.newarray .int, 2) := by decide +kernel
theorem dX10_init_89 : decode cX10_init 89 = .ok (.putfield 41, 3) := by decide +kernel
theorem dX10_init_92 : decode cX10_init 92 = .ok (.aload_n 0, 1) := by decide +kernel
theorem dX10_init_93 : decode cX10_init 93 = .ok (.bipush 8, 2) := by decide +kernel
theorem dX10_init_95 : decode cX10_init 95 = .ok (.newarray .int, 2) := by decide +kernel
theorem dX10_init_97 : decode cX10_init 97 = .ok (.putfield 44, 3) := by decide +kernel
theorem dX10_init_100 : decode cX10_init 100 = .ok (.aload_n 0, 1) := by decide +kernel
theorem dX10_init_101 : decode cX10_init 101 = .ok (.bipush 8, 2) := by decide +kernel
theorem dX10_init_103 : decode cX10_init 103 = .ok (.newarray .int, 2) := by decide +kernel
theorem dX10_init_105 : decode cX10_init 105 = .ok (.putfield 47, 3) := by decide +kernel
theorem dX10_init_108 : decode cX10_init 108 = .ok (.aload_n 0, 1) := by decide +kernel
theorem dX10_init_109 : decode cX10_init 109 = .ok (.getfield 31, 3) := by decide +kernel
theorem dX10_init_112 : decode cX10_init 112 = .ok (.bipush 9, 2) := by decide +kernel
theorem dX10_init_114 : decode cX10_init 114 = .ok (.iconst 1, 1) := by decide +kernel
theorem dX10_init_115 : decode cX10_init 115 = .ok (.iastore, 1) := by decide +kernel
theorem dX10_init_116 : decode cX10_init 116 = .ok (.iconst 0, 1) := by decide +kernel
theorem dX10_init_117 : decode cX10_init 117 = .ok (.istore_n 1, 1) := by decide +kernel
theorem dX10_init_118 : decode cX10_init 118 = .ok (.iload_n 1, 1) := by decide +kernel
theorem dX10_init_119 : decode cX10_init 119 = .ok (.bipush 8, 2) := by decide +kernel
theorem dX10_init_121 : decode cX10_init 121 = .ok (.if_icmp .ge 17, 3) := by decide +kernel
theorem dX10_init_124 : decode cX10_init 124 = .ok (.aload_n 0, 1) := by decide +kernel
theorem dX10_init_125 : decode cX10_init 125 = .ok (.getfield 31, 3) := by decide +kernel
theorem dX10_init_128 : decode cX10_init 128 = .ok (.iload_n 1, 1) := by decide +kernel
theorem dX10_init_129 : decode cX10_init 129 = .ok (.bipush (-9), 2) := by decide +kernel
theorem dX10_init_131 : decode cX10_init 131 = .ok (.iastore, 1) := by decide +kernel
theorem dX10_init_132 : decode cX10_init 132 = .ok (.iinc 1 1, 3) := by decide +kernel
theorem dX10_init_135 : decode cX10_init 135 = .ok (.goto (-17), 3) := by decide +kernel
theorem dX10_init_138 : decode cX10_init 138 = .ok (.return_, 1) := by decide +kernel
theorem dX10_in_0 : decode cX10_in 0 = .ok (.iload_n 0, 1) := by decide +kernel
theorem dX10_in_1 : decode cX10_in 1 = .ok (.iload_n 1, 1) := by decide +kernel
theorem dX10_in_2 : decode cX10_in 2 = .ok (.if_icmp .lt 12, 3) := by decide +kernel
theorem dX10_in_5 : decode cX10_in 5 = .ok (.iload_n 0, 1) := by decide +kernel
theorem dX10_in_6 : decode cX10_in 6 = .ok (.iload_n 2, 1) := by decide +kernel
theorem dX10_in_7 : decode cX10_in 7 = .ok (.if_icmp .gt 7, 3) := by decide +kernel
theorem dX10_in_10 : decode cX10_in 10 = .ok (.iconst 1, 1) := by decide +kernel
theorem dX10_in_11 : decode cX10_in 11 = .ok (.goto 4, 3) := by decide +kernel
theorem dX10_in_14 : decode cX10_in 14 = .ok (.iconst 0, 1) := by decide +kernel
theorem dX10_in_15 : decode cX10_in 15 = .ok (.ireturn, 1) := by decide +kernel
set_option maxRecDepth 20000 in
theorem ggX10_type_X10_in : GoodIn wsX10_type wsX10_in := goodIn_r _ [8] (by decide +kernel) (by decide +kernel)
set_option maxRecDepth 20000 in
theorem gX10_type_X10_in : GoodIn wsX10_type (va_wsS RX10 54 yX10_in wsX10_in) := goodIn_app (goodIn_of _ (by decide +kernel)) ggX10_type_X10_in
theorem dX10_type_0 : decode cX10_type 0 = .ok (.aload_n 0, 1) := by decide +kernel
theorem dX10_type_1 : decode cX10_type 1 = .ok (.iconst 0, 1) := by decide +kernel
theorem dX10_type_2 : decode cX10_type 2 = .ok (.putfield 50, 3) := by decide +kernel
theorem dX10_type_5 : decode cX10_type 5 = .ok (.iload_n 3, 1) := by decide +kernel
theorem dX10_type_6 : decode cX10_type 6 = .ok (.iconst 1, 1) := by decide +kernel
theorem dX10_type_7 : decode cX10_type 7 = .ok (.bipush 8, 2) := by decide +kernel
theorem dX10_type_9 : decode cX10_type 9 = .ok (.invokestatic 54, 3) := by decide +kernel
theorem dX10_type_12 : decode cX10_type 12 = .ok (.ifCond .ne 5, 3) := by decide +kernel
theorem dX10_type_15 : decode cX10_type 15 = .ok (.iconst (-1), 1) := by decide +kernel
theorem dX10_type_16 : decode cX10_type 16 = .ok (.ireturn, 1) := by decide +kernel
theorem dX10_type_17 : decode cX10_type 17 = .ok (.aload_n 0, 1) := by decide +kernel
theorem dX10_type_18 : decode cX10_type 18 = .ok (.getfield 58, 3) := by decide +kernel
theorem dX10_type_21 : decode cX10_type 21 = .ok (.iload_n 3, 1) := by decide +kernel
theorem dX10_type_22 : decode cX10_type 22 = .ok (.iadd, 1) := by decide +kernel
theorem dX10_type_23 : decode cX10_type 23 = .ok (.sipush 300, 3) := by decide +kernel
theorem dX10_type_26 : decode cX10_type 26 = .ok (.if_icmp .le 6, 3) := by decide +kernel
theorem dX10_type_29 : decode cX10_type 29 = .ok (.bipush (-3), 2) := by decide +kernel
theorem dX10_type_31 : decode cX10_type 31 = .ok (.ireturn, 1) := by decide +kernel
theorem dX10_type_32 : decode cX10_type 32 = .ok (.iload_n 3, 1) := by decide +kernel
theorem dX10_type_33 : decode cX10_type 33 = .ok (.iconst 1, 1) := by decide +kernel
theorem dX10_type_34 : decode cX10_type 34 = .ok (.isub, 1) := by decide +kernel
theorem dX10_type_35 : decode cX10_type 35 = .ok (.istore 4, 2) := by decide +kernel
theorem dX10_type_37 : decode cX10_type 37 = .ok (.iload 4, 2) := by decide +kernel
theorem dX10_type_39 : decode cX10_type 39 = .ok (.ifCond .lt 40, 3) := by decide +kernel
theorem dX10_type_42 : decode cX10_type 42 = .ok (.aload_n 0, 1) := by decide +kernel
theorem dX10_type_43 : decode cX10_type 43 = .ok (.getfield 7, 3) := by decide +kernel
theorem dX10_type_46 : decode cX10_type 46 = .ok (.aload_n 0, 1) := by decide +kernel
theorem dX10_type_47 : decode cX10_type 47 = .ok (.getfield 58, 3) := by decide +kernel
theorem dX10_type_50 : decode cX10_type 50 = .ok (.lload_n 1, 1) := by decide +kernel
theorem dX10_type_51 : decode cX10_type 51 = .ok (.bipush 8, 2) := by decide +kernel
theorem dX10_type_53 : decode cX10_type 53 = .ok (.iload 4, 2) := by decide +kernel
theorem dX10_type_55 : decode cX10_type 55 = .ok (.imul, 1) := by decide +kernel
theorem dX10_type_56 : decode cX10_type 56 = .ok (.lshr, 1) := by decide +kernel
theorem dX10_type_57 : decode cX10_type 57 = .ok (.ldc2_w 61, 3) := by decide +kernel
theorem dX10_type_60 : decode cX10_type 60 = .ok (.land, 1) := by decide +kernel
theorem dX10_type_61 : decode cX10_type 61 = .ok (.l2i, 1) := by decide +kernel
theorem dX10_type_62 : decode cX10_type 62 = .ok (.iastore, 1) := by decide +kernel
theorem dX10_type_63 : decode cX10_type 63 = .ok (.aload_n 0, 1) := by decide +kernel
theorem dX10_type_64 : decode cX10_type 64 = .ok (.dup, 1) := by decide +kernel
theorem dX10_type_65 : decode cX10_type 65 = .ok (.getfield 58, 3) := by decide +kernel
theorem dX10_type_68 : decode cX10_type 68 = .ok (.iconst 1, 1) := by decide +kernel
theorem dX10_type_69 : decode cX10_type 69 = .ok (.iadd, 1) := by decide +kernel
theorem dX10_type_70 : decode cX10_type 70 = .ok (.putfield 58, 3) := by decide +kernel
theorem dX10_type_73 : decode cX10_type 73 = .ok (.iinc 4 (-1), 3) := by decide +kernel
theorem dX10_type_76 : decode cX10_type 76 = .ok (.goto (-39), 3) := by decide +kernel
theorem dX10_type_79 : decode cX10_type 79 = .ok (.aload_n 0, 1) := by decide +kernel
theorem dX10_type_80 : decode cX10_type 80 = .ok (.getfield 58, 3) := by decide +kernel
theorem dX10_type_83 : decode cX10_type 83 = .ok (.ireturn, 1) := by decide +kernel
theorem dX10_clear_0 : decode cX10_clear 0 = .ok (.aload_n 0, 1) := by decide +kernel
theorem dX10_clear_1 : decode cX10_clear 1 = .ok (.iconst 0, 1) := by decide +kernel
theorem dX10_clear_2 : decode cX10_clear 2 = .ok (.putfield 50, 3) := by decide +kernel
theorem dX10_clear_5 : decode cX10_clear 5 = .ok (.aload_n 0, 1) := by decide +kernel
theorem dX10_clear_6 : decode cX10_clear 6 = .ok (.getfield 58, 3) := by decide +kernel
theorem dX10_clear_9 : decode cX10_clear 9 = .ok (.istore_n 1, 1) := by decide +kernel
theorem dX10_clear_10 : decode cX10_clear 10 = .ok (.aload_n 0, 1) := by decide +kernel
theorem dX10_clear_11 : decode cX10_clear 11 = .ok (.iconst 0, 1) := by decide +kernel
theorem dX10_clear_12 : decode cX10_clear 12 = .ok (.putfield 58, 3) := by decide +kernel
theorem dX10_clear_15 : decode cX10_clear 15 = .ok (.iload_n 1, 1) := by decide +kernel
theorem dX10_clear_16 : decode cX10_clear 16 = .ok (.ireturn, 1) := by decide +kernel
theorem dX10_byteAt_0 : decode cX10_byteAt 0 = .ok (.iload_n 1, 1) := by decide +kernel
theorem dX10_byteAt_1 : decode cX10_byteAt 1 = .ok (.aload_n 0, 1) := by decide +kernel
theorem dX10_byteAt_2 : decode cX10_byteAt 2 = .ok (.getfield 58, 3) := by decide +kernel
theorem dX10_byteAt_5 : decode cX10_byteAt 5 = .ok (.if_icmp .ge 12, 3) := by decide +kernel
theorem dX10_byteAt_8 : decode cX10_byteAt 8 = .ok (.aload_n 0, 1) := by decide +kernel
theorem dX10_byteAt_9 : decode cX10_byteAt 9 = .ok (.getfield 7, 3) := by decide +kernel
theorem dX10_byteAt_12 : decode cX10_byteAt 12 = .ok (.iload_n 1, 1) := by decide +kernel
theorem dX10_byteAt_13 : decode cX10_byteAt 13 = .ok (.iaload, 1) := by decide +kernel
theorem dX10_byteAt_14 : decode cX10_byteAt 14 = .ok (.goto 4, 3) := by decide +kernel
theorem dX10_byteAt_17 : decode cX10_byteAt 17 = .ok (.iconst (-1), 1) := by decide +kernel
theorem dX10_byteAt_18 : decode cX10_byteAt 18 = .ok (.ireturn, 1) := by decide +kernel
theorem dX10_add_0 : decode cX10_add 0 = .ok (.iload_n 2, 1) := by decide +kernel
theorem dX10_add_1 : decode cX10_add 1 = .ok (.ifCond .ne 7, 3) := by decide +kernel
theorem dX10_add_4 : decode cX10_add 4 = .ok (.lload_n 0, 1) := by decide +kernel
theorem dX10_add_5 : decode cX10_add 5 = .ok (.goto 11, 3) := by decide +kernel
theorem dX10_add_8 : decode cX10_add 8 = .ok (.ldc2_w 63, 3) := by decide +kernel
theorem dX10_add_11 : decode cX10_add 11 = .ok (.lload_n 0, 1) := by decide +kernel
theorem dX10_add_12 : decode cX10_add 12 = .ok (.lmul, 1) := by decide +kernel
theorem dX10_add_13 : decode cX10_add 13 = .ok (.iload_n 2, 1) := by decide +kernel
theorem dX10_add_14 : decode cX10_add 14 = .ok (.i2l, 1) := by decide +kernel
theorem dX10_add_15 : decode cX10_add 15 = .ok (.ladd, 1) := by decide +kernel
theorem dX10_add_16 : decode cX10_add 16 = .ok (.lreturn, 1) := by decide +kernel
set_option maxRecDepth 20000 in
theorem ggX10_named_X10_add : GoodIn wsX10_named wsX10_add := goodIn_r _ [4, 5] (by decide +kernel) (by decide +kernel)
set_option maxRecDepth 20000 in
theorem gX10_named_X10_add : GoodIn wsX10_named (va_wsS RX10 65 yX10_add wsX10_add) := goodIn_app (goodIn_of _ (by decide +kernel)) ggX10_named_X10_add
theorem dX10_named_0 : decode cX10_named 0 = .ok (.lconst 0, 1) := by decide +kernel
theorem dX10_named_1 : decode cX10_named 1 = .ok (.iload_n 0, 1) := by decide +kernel
theorem dX10_named_2 : decode cX10_named 2 = .ok (.invokestatic 65, 3) := by decide +kernel
theorem dX10_named_5 : decode cX10_named 5 = .ok (.iload_n 1, 1) := by decide +kernel
theorem dX10_named_6 : decode cX10_named 6 = .ok (.invokestatic 65, 3) := by decide +kernel
theorem dX10_named_9 : decode cX10_named 9 = .ok (.iload_n 2, 1) := by decide +kernel
theorem dX10_named_10 : decode cX10_named 10 = .ok (.invokestatic 65, 3) := by decide +kernel
theorem dX10_named_13 : decode cX10_named 13 = .ok (.iload_n 3, 1) := by decide +kernel
theorem dX10_named_14 : decode cX10_named 14 = .ok (.invokestatic 65, 3) := by decide +kernel
theorem dX10_named_17 : decode cX10_named 17 = .ok (.iload 4, 2) := by decide +kernel
theorem dX10_named_19 : decode cX10_named 19 = .ok (.invokestatic 65, 3) := by decide +kernel
theorem dX10_named_22 : decode cX10_named 22 = .ok (.lreturn, 1) := by decide +kernel
set_option maxRecDepth 20000 in
theorem ggX10_wordOf_X10_named : GoodIn wsX10_wordOf wsX10_named := goodIn_r _ [4, 5, 6, 3, 7, 8] (by decide +kernel) (by decide +kernel)
set_option maxRecDepth 20000 in
theorem gX10_wordOf_X10_named : GoodIn wsX10_wordOf (va_wsS RX10 69 yX10_named wsX10_named) := goodIn_app (goodIn_of _ (by decide +kernel)) ggX10_wordOf_X10_named
theorem dX10_wordOf_0 : decode cX10_wordOf 0 = .ok (.lload_n 0, 1) := by decide +kernel
theorem dX10_wordOf_1 : decode cX10_wordOf 1 = .ok (.bipush 115, 2) := by decide +kernel
theorem dX10_wordOf_3 : decode cX10_wordOf 3 = .ok (.bipush 111, 2) := by decide +kernel
theorem dX10_wordOf_5 : decode cX10_wordOf 5 = .ok (.bipush 114, 2) := by decide +kernel
theorem dX10_wordOf_7 : decode cX10_wordOf 7 = .ok (.bipush 116, 2) := by decide +kernel
theorem dX10_wordOf_9 : decode cX10_wordOf 9 = .ok (.iconst 0, 1) := by decide +kernel
theorem dX10_wordOf_10 : decode cX10_wordOf 10 = .ok (.invokestatic 69, 3) := by decide +kernel
theorem dX10_wordOf_13 : decode cX10_wordOf 13 = .ok (.lcmp, 1) := by decide +kernel
theorem dX10_wordOf_14 : decode cX10_wordOf 14 = .ok (.ifCond .ne 7, 3) := by decide +kernel
theorem dX10_wordOf_17 : decode cX10_wordOf 17 = .ok (.iconst 0, 1) := by decide +kernel
theorem dX10_wordOf_18 : decode cX10_wordOf 18 = .ok (.goto 91, 3) := by decide +kernel
theorem dX10_wordOf_21 : decode cX10_wordOf 21 = .ok (.lload_n 0, 1) := by decide +kernel
theorem dX10_wordOf_22 : decode cX10_wordOf 22 = .ok (.bipush 104, 2) := by decide +kernel
theorem dX10_wordOf_24 : decode cX10_wordOf 24 = .ok (.bipush 111, 2) := by decide +kernel
theorem dX10_wordOf_26 : decode cX10_wordOf 26 = .ok (.bipush 117, 2) := by decide +kernel
theorem dX10_wordOf_28 : decode cX10_wordOf 28 = .ok (.bipush 115, 2) := by decide +kernel
theorem dX10_wordOf_30 : decode cX10_wordOf 30 = .ok (.bipush 101, 2) := by decide +kernel
theorem dX10_wordOf_32 : decode cX10_wordOf 32 = .ok (.invokestatic 69, 3) := by decide +kernel
theorem dX10_wordOf_35 : decode cX10_wordOf 35 = .ok (.lcmp, 1) := by decide +kernel
theorem dX10_wordOf_36 : decode cX10_wordOf 36 = .ok (.ifCond .ne 7, 3) := by decide +kernel
theorem dX10_wordOf_39 : decode cX10_wordOf 39 = .ok (.iconst 1, 1) := by decide +kernel
theorem dX10_wordOf_40 : decode cX10_wordOf 40 = .ok (.goto 69, 3) := by decide +kernel
theorem dX10_wordOf_43 : decode cX10_wordOf 43 = .ok (.lload_n 0, 1) := by decide +kernel
theorem dX10_wordOf_44 : decode cX10_wordOf 44 = .ok (.bipush 114, 2) := by decide +kernel
theorem dX10_wordOf_46 : decode cX10_wordOf 46 = .ok (.bipush 111, 2) := by decide +kernel
theorem dX10_wordOf_48 : decode cX10_wordOf 48 = .ok (.bipush 111, 2) := by decide +kernel
theorem dX10_wordOf_50 : decode cX10_wordOf 50 = .ok (.bipush 102, 2) := by decide +kernel
theorem dX10_wordOf_52 : decode cX10_wordOf 52 = .ok (.iconst 0, 1) := by decide +kernel
theorem dX10_wordOf_53 : decode cX10_wordOf 53 = .ok (.invokestatic 69, 3) := by decide +kernel
theorem dX10_wordOf_56 : decode cX10_wordOf 56 = .ok (.lcmp, 1) := by decide +kernel
theorem dX10_wordOf_57 : decode cX10_wordOf 57 = .ok (.ifCond .ne 7, 3) := by decide +kernel
theorem dX10_wordOf_60 : decode cX10_wordOf 60 = .ok (.iconst 2, 1) := by decide +kernel
theorem dX10_wordOf_61 : decode cX10_wordOf 61 = .ok (.goto 48, 3) := by decide +kernel
theorem dX10_wordOf_64 : decode cX10_wordOf 64 = .ok (.lload_n 0, 1) := by decide +kernel
theorem dX10_wordOf_65 : decode cX10_wordOf 65 = .ok (.bipush 98, 2) := by decide +kernel
theorem dX10_wordOf_67 : decode cX10_wordOf 67 = .ok (.bipush 111, 2) := by decide +kernel
theorem dX10_wordOf_69 : decode cX10_wordOf 69 = .ok (.bipush 117, 2) := by decide +kernel
theorem dX10_wordOf_71 : decode cX10_wordOf 71 = .ok (.bipush 110, 2) := by decide +kernel
theorem dX10_wordOf_73 : decode cX10_wordOf 73 = .ok (.bipush 100, 2) := by decide +kernel
theorem dX10_wordOf_75 : decode cX10_wordOf 75 = .ok (.invokestatic 69, 3) := by decide +kernel
theorem dX10_wordOf_78 : decode cX10_wordOf 78 = .ok (.lcmp, 1) := by decide +kernel
theorem dX10_wordOf_79 : decode cX10_wordOf 79 = .ok (.ifCond .ne 7, 3) := by decide +kernel
theorem dX10_wordOf_82 : decode cX10_wordOf 82 = .ok (.iconst 3, 1) := by decide +kernel
theorem dX10_wordOf_83 : decode cX10_wordOf 83 = .ok (.goto 26, 3) := by decide +kernel
theorem dX10_wordOf_86 : decode cX10_wordOf 86 = .ok (.lload_n 0, 1) := by decide +kernel
theorem dX10_wordOf_87 : decode cX10_wordOf 87 = .ok (.bipush 119, 2) := by decide +kernel
theorem dX10_wordOf_89 : decode cX10_wordOf 89 = .ok (.bipush 105, 2) := by decide +kernel
theorem dX10_wordOf_91 : decode cX10_wordOf 91 = .ok (.bipush 110, 2) := by decide +kernel
theorem dX10_wordOf_93 : decode cX10_wordOf 93 = .ok (.bipush 100, 2) := by decide +kernel
theorem dX10_wordOf_95 : decode cX10_wordOf 95 = .ok (.iconst 0, 1) := by decide +kernel
theorem dX10_wordOf_96 : decode cX10_wordOf 96 = .ok (.invokestatic 69, 3) := by decide +kernel
theorem dX10_wordOf_99 : decode cX10_wordOf 99 = .ok (.lcmp, 1) := by decide +kernel
theorem dX10_wordOf_100 : decode cX10_wordOf 100 = .ok (.ifCond .ne 7, 3) := by decide +kernel
theorem dX10_wordOf_103 : decode cX10_wordOf 103 = .ok (.iconst 4, 1) := by decide +kernel
theorem dX10_wordOf_104 : decode cX10_wordOf 104 = .ok (.goto 5, 3) := by decide +kernel
theorem dX10_wordOf_107 : decode cX10_wordOf 107 = .ok (.bipush (-9), 2) := by decide +kernel
theorem dX10_wordOf_109 : decode cX10_wordOf 109 = .ok (.istore_n 2, 1) := by decide +kernel
theorem dX10_wordOf_110 : decode cX10_wordOf 110 = .ok (.iload_n 2, 1) := by decide +kernel
theorem dX10_wordOf_111 : decode cX10_wordOf 111 = .ok (.bipush (-9), 2) := by decide +kernel
theorem dX10_wordOf_113 : decode cX10_wordOf 113 = .ok (.if_icmp .eq 5, 3) := by decide +kernel
theorem dX10_wordOf_116 : decode cX10_wordOf 116 = .ok (.iload_n 2, 1) := by decide +kernel
theorem dX10_wordOf_117 : decode cX10_wordOf 117 = .ok (.ireturn, 1) := by decide +kernel
theorem dX10_wordOf_118 : decode cX10_wordOf 118 = .ok (.lload_n 0, 1) := by decide +kernel
theorem dX10_wordOf_119 : decode cX10_wordOf 119 = .ok (.bipush 110, 2) := by decide +kernel
theorem dX10_wordOf_121 : decode cX10_wordOf 121 = .ok (.bipush 111, 2) := by decide +kernel
theorem dX10_wordOf_123 : decode cX10_wordOf 123 = .ok (.bipush 110, 2) := by decide +kernel
theorem dX10_wordOf_125 : decode cX10_wordOf 125 = .ok (.bipush 101, 2) := by decide +kernel
theorem dX10_wordOf_127 : decode cX10_wordOf 127 = .ok (.iconst 0, 1) := by decide +kernel
theorem dX10_wordOf_128 : decode cX10_wordOf 128 = .ok (.invokestatic 69, 3) := by decide +kernel
theorem dX10_wordOf_131 : decode cX10_wordOf 131 = .ok (.lcmp, 1) := by decide +kernel
theorem dX10_wordOf_132 : decode cX10_wordOf 132 = .ok (.ifCond .ne 7, 3) := by decide +kernel
theorem dX10_wordOf_135 : decode cX10_wordOf 135 = .ok (.iconst 5, 1) := by decide +kernel
theorem dX10_wordOf_136 : decode cX10_wordOf 136 = .ok (.goto 50, 3) := by decide +kernel
theorem dX10_wordOf_139 : decode cX10_wordOf 139 = .ok (.lload_n 0, 1) := by decide +kernel
theorem dX10_wordOf_140 : decode cX10_wordOf 140 = .ok (.bipush 114, 2) := by decide +kernel
theorem dX10_wordOf_142 : decode cX10_wordOf 142 = .ok (.bipush 105, 2) := by decide +kernel
theorem dX10_wordOf_144 : decode cX10_wordOf 144 = .ok (.bipush 103, 2) := by decide +kernel
theorem dX10_wordOf_146 : decode cX10_wordOf 146 = .ok (.bipush 104, 2) := by decide +kernel
theorem dX10_wordOf_148 : decode cX10_wordOf 148 = .ok (.bipush 116, 2) := by decide +kernel
theorem dX10_wordOf_150 : decode cX10_wordOf 150 = .ok (.invokestatic 69, 3) := by decide +kernel
theorem dX10_wordOf_153 : decode cX10_wordOf 153 = .ok (.lcmp, 1) := by decide +kernel
theorem dX10_wordOf_154 : decode cX10_wordOf 154 = .ok (.ifCond .ne 8, 3) := by decide +kernel
theorem dX10_wordOf_157 : decode cX10_wordOf 157 = .ok (.bipush 6, 2) := by decide +kernel
theorem dX10_wordOf_159 : decode cX10_wordOf 159 = .ok (.goto 27, 3) := by decide +kernel
theorem dX10_wordOf_162 : decode cX10_wordOf 162 = .ok (.lload_n 0, 1) := by decide +kernel
theorem dX10_wordOf_163 : decode cX10_wordOf 163 = .ok (.bipush 100, 2) := by decide +kernel
theorem dX10_wordOf_165 : decode cX10_wordOf 165 = .ok (.bipush 111, 2) := by decide +kernel
theorem dX10_wordOf_167 : decode cX10_wordOf 167 = .ok (.bipush 119, 2) := by decide +kernel
theorem dX10_wordOf_169 : decode cX10_wordOf 169 = .ok (.bipush 110, 2) := by decide +kernel
theorem dX10_wordOf_171 : decode cX10_wordOf 171 = .ok (.iconst 0, 1) := by decide +kernel
theorem dX10_wordOf_172 : decode cX10_wordOf 172 = .ok (.invokestatic 69, 3) := by decide +kernel
theorem dX10_wordOf_175 : decode cX10_wordOf 175 = .ok (.lcmp, 1) := by decide +kernel
theorem dX10_wordOf_176 : decode cX10_wordOf 176 = .ok (.ifCond .ne 8, 3) := by decide +kernel
theorem dX10_wordOf_179 : decode cX10_wordOf 179 = .ok (.bipush 7, 2) := by decide +kernel
theorem dX10_wordOf_181 : decode cX10_wordOf 181 = .ok (.goto 5, 3) := by decide +kernel
theorem dX10_wordOf_184 : decode cX10_wordOf 184 = .ok (.bipush (-9), 2) := by decide +kernel
theorem dX10_wordOf_186 : decode cX10_wordOf 186 = .ok (.istore_n 3, 1) := by decide +kernel
theorem dX10_wordOf_187 : decode cX10_wordOf 187 = .ok (.iload_n 3, 1) := by decide +kernel
theorem dX10_wordOf_188 : decode cX10_wordOf 188 = .ok (.bipush (-9), 2) := by decide +kernel
theorem dX10_wordOf_190 : decode cX10_wordOf 190 = .ok (.if_icmp .eq 7, 3) := by decide +kernel
theorem dX10_wordOf_193 : decode cX10_wordOf 193 = .ok (.iload_n 3, 1) := by decide +kernel
theorem dX10_wordOf_194 : decode cX10_wordOf 194 = .ok (.goto 47, 3) := by decide +kernel
theorem dX10_wordOf_197 : decode cX10_wordOf 197 = .ok (.lload_n 0, 1) := by decide +kernel
theorem dX10_wordOf_198 : decode cX10_wordOf 198 = .ok (.bipush 108, 2) := by decide +kernel
theorem dX10_wordOf_200 : decode cX10_wordOf 200 = .ok (.bipush 101, 2) := by decide +kernel
theorem dX10_wordOf_202 : decode cX10_wordOf 202 = .ok (.bipush 102, 2) := by decide +kernel
theorem dX10_wordOf_204 : decode cX10_wordOf 204 = .ok (.bipush 116, 2) := by decide +kernel
theorem dX10_wordOf_206 : decode cX10_wordOf 206 = .ok (.iconst 0, 1) := by decide +kernel
theorem dX10_wordOf_207 : decode cX10_wordOf 207 = .ok (.invokestatic 69, 3) := by decide +kernel
theorem dX10_wordOf_210 : decode cX10_wordOf 210 = .ok (.lcmp, 1) := by decide +kernel
theorem dX10_wordOf_211 : decode cX10_wordOf 211 = .ok (.ifCond .ne 8, 3) := by decide +kernel
theorem dX10_wordOf_214 : decode cX10_wordOf 214 = .ok (.bipush 8, 2) := by decide +kernel
theorem dX10_wordOf_216 : decode cX10_wordOf 216 = .ok (.goto 25, 3) := by decide +kernel
theorem dX10_wordOf_219 : decode cX10_wordOf 219 = .ok (.lload_n 0, 1) := by decide +kernel
theorem dX10_wordOf_220 : decode cX10_wordOf 220 = .ok (.bipush 117, 2) := by decide +kernel
theorem dX10_wordOf_222 : decode cX10_wordOf 222 = .ok (.bipush 112, 2) := by decide +kernel
theorem dX10_wordOf_224 : decode cX10_wordOf 224 = .ok (.iconst 0, 1) := by decide +kernel
theorem dX10_wordOf_225 : decode cX10_wordOf 225 = .ok (.iconst 0, 1) := by decide +kernel
theorem dX10_wordOf_226 : decode cX10_wordOf 226 = .ok (.iconst 0, 1) := by decide +kernel
theorem dX10_wordOf_227 : decode cX10_wordOf 227 = .ok (.invokestatic 69, 3) := by decide +kernel
theorem dX10_wordOf_230 : decode cX10_wordOf 230 = .ok (.lcmp, 1) := by decide +kernel
theorem dX10_wordOf_231 : decode cX10_wordOf 231 = .ok (.ifCond .ne 8, 3) := by decide +kernel
theorem dX10_wordOf_234 : decode cX10_wordOf 234 = .ok (.bipush 9, 2) := by decide +kernel
theorem dX10_wordOf_236 : decode cX10_wordOf 236 = .ok (.goto 5, 3) := by decide +kernel
theorem dX10_wordOf_239 : decode cX10_wordOf 239 = .ok (.bipush (-9), 2) := by decide +kernel
theorem dX10_wordOf_241 : decode cX10_wordOf 241 = .ok (.ireturn, 1) := by decide +kernel
set_option maxRecDepth 20000 in
theorem ggX10_advances_X10_byteAt : GoodIn wsX10_advances wsX10_byteAt := goodIn_r _ [9, 10, 11, 25, 26, 27, 28, 29, 30, 31, 32, 33, 34, 35, 36, 37, 38, 39, 40, 41, 42, 43, 44, 45, 46, 47, 48, 49, 50, 51, 52, 53, 54, 55] (by decide +kernel) (by decide +kernel)
set_option maxRecDepth 20000 in
theorem gX10_advances_X10_byteAt : GoodIn wsX10_advances (wsV RX10 76 RX10 yX10_byteAt wsX10_byteAt) := goodIn_app (goodIn_of _ (by decide +kernel)) ggX10_advances_X10_byteAt
set_option maxRecDepth 20000 in
theorem ggX10_advances_X10_in : GoodIn wsX10_advances wsX10_in := goodIn_r _ [14] (by decide +kernel) (by decide +kernel)
set_option maxRecDepth 20000 in
theorem gX10_advances_X10_in : GoodIn wsX10_advances (va_wsS RX10 54 yX10_in wsX10_in) := goodIn_app (goodIn_of _ (by decide +kernel)) ggX10_advances_X10_in
set_option maxRecDepth 20000 in
theorem ggX10_advances_X10_add : GoodIn wsX10_advances wsX10_add := goodIn_r _ [17, 18] (by decide +kernel) (by decide +kernel)
set_option maxRecDepth 20000 in
theorem gX10_advances_X10_add : GoodIn wsX10_advances (va_wsS RX10 65 yX10_add wsX10_add) := goodIn_app (goodIn_of _ (by decide +kernel)) ggX10_advances_X10_add
set_option maxRecDepth 20000 in
theorem ggX10_advances_X10_wordOf : GoodIn wsX10_advances wsX10_wordOf := goodIn_r _ [21, 22, 23, 8, 24, 15, 16, 17, 18] (by decide +kernel) (by decide +kernel)
set_option maxRecDepth 20000 in
theorem gX10_advances_X10_wordOf : GoodIn wsX10_advances (va_wsS RX10 86 yX10_wordOf wsX10_wordOf) := goodIn_app (goodIn_of _ (by decide +kernel)) ggX10_advances_X10_wordOf
theorem dX10_advances_0 : decode cX10_advances 0 = .ok (.aload_n 0, 1) := by decide +kernel
theorem dX10_advances_1 : decode cX10_advances 1 = .ok (.aload_n 0, 1) := by decide +kernel
theorem dX10_advances_2 : decode cX10_advances 2 = .ok (.getfield 73, 3) := by decide +kernel
theorem dX10_advances_5 : decode cX10_advances 5 = .ok (.invokevirtual 76, 3) := by decide +kernel
theorem dX10_advances_8 : decode cX10_advances 8 = .ok (.bipush 32, 2) := by decide +kernel
theorem dX10_advances_10 : decode cX10_advances 10 = .ok (.if_icmp .ne 16, 3) := by decide +kernel
theorem dX10_advances_13 : decode cX10_advances 13 = .ok (.aload_n 0, 1) := by decide +kernel
theorem dX10_advances_14 : decode cX10_advances 14 = .ok (.dup, 1) := by decide +kernel
theorem dX10_advances_15 : decode cX10_advances 15 = .ok (.getfield 73, 3) := by decide +kernel
theorem dX10_advances_18 : decode cX10_advances 18 = .ok (.iconst 1, 1) := by decide +kernel
theorem dX10_advances_19 : decode cX10_advances 19 = .ok (.iadd, 1) := by decide +kernel
theorem dX10_advances_20 : decode cX10_advances 20 = .ok (.putfield 73, 3) := by decide +kernel
theorem dX10_advances_23 : decode cX10_advances 23 = .ok (.goto (-23), 3) := by decide +kernel
theorem dX10_advances_26 : decode cX10_advances 26 = .ok (.aload_n 0, 1) := by decide +kernel
theorem dX10_advances_27 : decode cX10_advances 27 = .ok (.aload_n 0, 1) := by decide +kernel
theorem dX10_advances_28 : decode cX10_advances 28 = .ok (.getfield 73, 3) := by decide +kernel
theorem dX10_advances_31 : decode cX10_advances 31 = .ok (.putfield 80, 3) := by decide +kernel
theorem dX10_advances_34 : decode cX10_advances 34 = .ok (.aload_n 0, 1) := by decide +kernel
theorem dX10_advances_35 : decode cX10_advances 35 = .ok (.aload_n 0, 1) := by decide +kernel
theorem dX10_advances_36 : decode cX10_advances 36 = .ok (.getfield 73, 3) := by decide +kernel
theorem dX10_advances_39 : decode cX10_advances 39 = .ok (.invokevirtual 76, 3) := by decide +kernel
theorem dX10_advances_42 : decode cX10_advances 42 = .ok (.istore_n 1, 1) := by decide +kernel
theorem dX10_advances_43 : decode cX10_advances 43 = .ok (.iload_n 1, 1) := by decide +kernel
theorem dX10_advances_44 : decode cX10_advances 44 = .ok (.ifCond .ge 11, 3) := by decide +kernel
theorem dX10_advances_47 : decode cX10_advances 47 = .ok (.aload_n 0, 1) := by decide +kernel
theorem dX10_advances_48 : decode cX10_advances 48 = .ok (.iconst 0, 1) := by decide +kernel
theorem dX10_advances_49 : decode cX10_advances 49 = .ok (.putfield 83, 3) := by decide +kernel
theorem dX10_advances_52 : decode cX10_advances 52 = .ok (.goto 258, 3) := by decide +kernel
theorem dX10_advances_55 : decode cX10_advances 55 = .ok (.iload_n 1, 1) := by decide +kernel
theorem dX10_advances_56 : decode cX10_advances 56 = .ok (.bipush 97, 2) := by decide +kernel
theorem dX10_advances_58 : decode cX10_advances 58 = .ok (.bipush 122, 2) := by decide +kernel
theorem dX10_advances_60 : decode cX10_advances 60 = .ok (.invokestatic 54, 3) := by decide +kernel
theorem dX10_advances_63 : decode cX10_advances 63 = .ok (.ifCond .eq 96, 3) := by decide +kernel
theorem dX10_advances_66 : decode cX10_advances 66 = .ok (.lconst 0, 1) := by decide +kernel
theorem dX10_advances_67 : decode cX10_advances 67 = .ok (.lstore_n 2, 1) := by decide +kernel
theorem dX10_advances_68 : decode cX10_advances 68 = .ok (.aload_n 0, 1) := by decide +kernel
theorem dX10_advances_69 : decode cX10_advances 69 = .ok (.aload_n 0, 1) := by decide +kernel
theorem dX10_advances_70 : decode cX10_advances 70 = .ok (.getfield 73, 3) := by decide +kernel
theorem dX10_advances_73 : decode cX10_advances 73 = .ok (.invokevirtual 76, 3) := by decide +kernel
theorem dX10_advances_76 : decode cX10_advances 76 = .ok (.bipush 97, 2) := by decide +kernel
theorem dX10_advances_78 : decode cX10_advances 78 = .ok (.bipush 122, 2) := by decide +kernel
theorem dX10_advances_80 : decode cX10_advances 80 = .ok (.invokestatic 54, 3) := by decide +kernel
theorem dX10_advances_83 : decode cX10_advances 83 = .ok (.ifCond .eq 47, 3) := by decide +kernel
theorem dX10_advances_86 : decode cX10_advances 86 = .ok (.aload_n 0, 1) := by decide +kernel
theorem dX10_advances_87 : decode cX10_advances 87 = .ok (.getfield 73, 3) := by decide +kernel
theorem dX10_advances_90 : decode cX10_advances 90 = .ok (.aload_n 0, 1) := by decide +kernel
theorem dX10_advances_91 : decode cX10_advances 91 = .ok (.getfield 80, 3) := by decide +kernel
theorem dX10_advances_94 : decode cX10_advances 94 = .ok (.isub, 1) := by decide +kernel
theorem dX10_advances_95 : decode cX10_advances 95 = .ok (.bipush 7, 2) := by decide +kernel
theorem dX10_advances_97 : decode cX10_advances 97 = .ok (.if_icmp .ge 18, 3) := by decide +kernel
theorem dX10_advances_100 : decode cX10_advances 100 = .ok (.lload_n 2, 1) := by decide +kernel
theorem dX10_advances_101 : decode cX10_advances 101 = .ok (.aload_n 0, 1) := by decide +kernel
theorem dX10_advances_102 : decode cX10_advances 102 = .ok (.aload_n 0, 1) := by decide +kernel
theorem dX10_advances_103 : decode cX10_advances 103 = .ok (.getfield 73, 3) := by decide +kernel
theorem dX10_advances_106 : decode cX10_advances 106 = .ok (.invokevirtual 76, 3) := by decide +kernel
theorem dX10_advances_109 : decode cX10_advances 109 = .ok (.invokestatic 65, 3) := by decide +kernel
theorem dX10_advances_112 : decode cX10_advances 112 = .ok (.goto 4, 3) := by decide +kernel
theorem dX10_advances_115 : decode cX10_advances 115 = .ok (.lload_n 2, 1) := by decide +kernel
theorem dX10_advances_116 : decode cX10_advances 116 = .ok (.lstore_n 2, 1) := by decide +kernel
theorem dX10_advances_117 : decode cX10_advances 117 = .ok (.aload_n 0, 1) := by decide +kernel
theorem dX10_advances_118 : decode cX10_advances 118 = .ok (.dup, 1) := by decide +kernel
theorem dX10_advances_119 : decode cX10_advances 119 = .ok (.getfield 73, 3) := by decide +kernel
theorem dX10_advances_122 : decode cX10_advances 122 = .ok (.iconst 1, 1) := by decide +kernel
theorem dX10_advances_123 : decode cX10_advances 123 = .ok (.iadd, 1) := by decide +kernel
theorem dX10_advances_124 : decode cX10_advances 124 = .ok (.putfield 73, 3) := by decide +kernel
theorem dX10_advances_127 : decode cX10_advances 127 = .ok (.goto (-59), 3) := by decide +kernel
theorem dX10_advances_130 : decode cX10_advances 130 = .ok (.aload_n 0, 1) := by decide +kernel
theorem dX10_advances_131 : decode cX10_advances 131 = .ok (.lload_n 2, 1) := by decide +kernel
theorem dX10_advances_132 : decode cX10_advances 132 = .ok (.invokestatic 86, 3) := by decide +kernel
theorem dX10_advances_135 : decode cX10_advances 135 = .ok (.putfield 90, 3) := by decide +kernel
theorem dX10_advances_138 : decode cX10_advances 138 = .ok (.aload_n 0, 1) := by decide +kernel
theorem dX10_advances_139 : decode cX10_advances 139 = .ok (.aload_n 0, 1) := by decide +kernel
theorem dX10_advances_140 : decode cX10_advances 140 = .ok (.getfield 90, 3) := by decide +kernel
theorem dX10_advances_143 : decode cX10_advances 143 = .ok (.bipush (-9), 2) := by decide +kernel
theorem dX10_advances_145 : decode cX10_advances 145 = .ok (.if_icmp .ne 7, 3) := by decide +kernel
theorem dX10_advances_148 : decode cX10_advances 148 = .ok (.iconst 4, 1) := by decide +kernel
theorem dX10_advances_149 : decode cX10_advances 149 = .ok (.goto 4, 3) := by decide +kernel
theorem dX10_advances_152 : decode cX10_advances 152 = .ok (.iconst 1, 1) := by decide +kernel
theorem dX10_advances_153 : decode cX10_advances 153 = .ok (.putfield 83, 3) := by decide +kernel
theorem dX10_advances_156 : decode cX10_advances 156 = .ok (.goto 154, 3) := by decide +kernel
theorem dX10_advances_159 : decode cX10_advances 159 = .ok (.iload_n 1, 1) := by decide +kernel
theorem dX10_advances_160 : decode cX10_advances 160 = .ok (.bipush 48, 2) := by decide +kernel
theorem dX10_advances_162 : decode cX10_advances 162 = .ok (.bipush 57, 2) := by decide +kernel
theorem dX10_advances_164 : decode cX10_advances 164 = .ok (.invokestatic 54, 3) := by decide +kernel
theorem dX10_advances_167 : decode cX10_advances 167 = .ok (.ifCond .eq 118, 3) := by decide +kernel
theorem dX10_advances_170 : decode cX10_advances 170 = .ok (.aload_n 0, 1) := by decide +kernel
theorem dX10_advances_171 : decode cX10_advances 171 = .ok (.iconst 0, 1) := by decide +kernel
theorem dX10_advances_172 : decode cX10_advances 172 = .ok (.putfield 90, 3) := by decide +kernel
theorem dX10_advances_175 : decode cX10_advances 175 = .ok (.aload_n 0, 1) := by decide +kernel
theorem dX10_advances_176 : decode cX10_advances 176 = .ok (.aload_n 0, 1) := by decide +kernel
theorem dX10_advances_177 : decode cX10_advances 177 = .ok (.getfield 73, 3) := by decide +kernel
theorem dX10_advances_180 : decode cX10_advances 180 = .ok (.invokevirtual 76, 3) := by decide +kernel
theorem dX10_advances_183 : decode cX10_advances 183 = .ok (.bipush 48, 2) := by decide +kernel
theorem dX10_advances_185 : decode cX10_advances 185 = .ok (.bipush 57, 2) := by decide +kernel
theorem dX10_advances_187 : decode cX10_advances 187 = .ok (.invokestatic 54, 3) := by decide +kernel
theorem dX10_advances_190 : decode cX10_advances 190 = .ok (.ifCond .eq 55, 3) := by decide +kernel
theorem dX10_advances_193 : decode cX10_advances 193 = .ok (.aload_n 0, 1) := by decide +kernel
theorem dX10_advances_194 : decode cX10_advances 194 = .ok (.aload_n 0, 1) := by decide +kernel
theorem dX10_advances_195 : decode cX10_advances 195 = .ok (.getfield 90, 3) := by decide +kernel
theorem dX10_advances_198 : decode cX10_advances 198 = .ok (.bipush 99, 2) := by decide +kernel
theorem dX10_advances_200 : decode cX10_advances 200 = .ok (.if_icmp .le 10, 3) := by decide +kernel
theorem dX10_advances_203 : decode cX10_advances 203 = .ok (.aload_n 0, 1) := by decide +kernel
theorem dX10_advances_204 : decode cX10_advances 204 = .ok (.getfield 90, 3) := by decide +kernel
theorem dX10_advances_207 : decode cX10_advances 207 = .ok (.goto 22, 3) := by decide +kernel
theorem dX10_advances_210 : decode cX10_advances 210 = .ok (.bipush 10, 2) := by decide +kernel
theorem dX10_advances_212 : decode cX10_advances 212 = .ok (.aload_n 0, 1) := by decide +kernel
theorem dX10_advances_213 : decode cX10_advances 213 = .ok (.getfield 90, 3) := by decide +kernel
theorem dX10_advances_216 : decode cX10_advances 216 = .ok (.imul, 1) := by decide +kernel
theorem dX10_advances_217 : decode cX10_advances 217 = .ok (.aload_n 0, 1) := by decide +kernel
theorem dX10_advances_218 : decode cX10_advances 218 = .ok (.aload_n 0, 1) := by decide +kernel
theorem dX10_advances_219 : decode cX10_advances 219 = .ok (.getfield 73, 3) := by decide +kernel
theorem dX10_advances_222 : decode cX10_advances 222 = .ok (.invokevirtual 76, 3) := by decide +kernel
theorem dX10_advances_225 : decode cX10_advances 225 = .ok (.iadd, 1) := by decide +kernel
theorem dX10_advances_226 : decode cX10_advances 226 = .ok (.bipush 48, 2) := by decide +kernel
theorem dX10_advances_228 : decode cX10_advances 228 = .ok (.isub, 1) := by decide +kernel
theorem dX10_advances_229 : decode cX10_advances 229 = .ok (.putfield 90, 3) := by decide +kernel
theorem dX10_advances_232 : decode cX10_advances 232 = .ok (.aload_n 0, 1) := by decide +kernel
theorem dX10_advances_233 : decode cX10_advances 233 = .ok (.dup, 1) := by decide +kernel
theorem dX10_advances_234 : decode cX10_advances 234 = .ok (.getfield 73, 3) := by decide +kernel
theorem dX10_advances_237 : decode cX10_advances 237 = .ok (.iconst 1, 1) := by decide +kernel
theorem dX10_advances_238 : decode cX10_advances 238 = .ok (.iadd, 1) := by decide +kernel
theorem dX10_advances_239 : decode cX10_advances 239 = .ok (.putfield 73, 3) := by decide +kernel
theorem dX10_advances_242 : decode cX10_advances 242 = .ok (.goto (-67), 3) := by decide +kernel
theorem dX10_advances_245 : decode cX10_advances 245 = .ok (.aload_n 0, 1) := by decide +kernel
theorem dX10_advances_246 : decode cX10_advances 246 = .ok (.aload_n 0, 1) := by decide +kernel
theorem dX10_advances_247 : decode cX10_advances 247 = .ok (.getfield 90, 3) := by decide +kernel
theorem dX10_advances_250 : decode cX10_advances 250 = .ok (.bipush 99, 2) := by decide +kernel
theorem dX10_advances_252 : decode cX10_advances 252 = .ok (.if_icmp .gt 22, 3) := by decide +kernel
theorem dX10_advances_255 : decode cX10_advances 255 = .ok (.iload_n 1, 1) := by decide +kernel
theorem dX10_advances_256 : decode cX10_advances 256 = .ok (.bipush 48, 2) := by decide +kernel
theorem dX10_advances_258 : decode cX10_advances 258 = .ok (.if_icmp .ne 20, 3) := by decide +kernel
theorem dX10_advances_261 : decode cX10_advances 261 = .ok (.aload_n 0, 1) := by decide +kernel
theorem dX10_advances_262 : decode cX10_advances 262 = .ok (.getfield 73, 3) := by decide +kernel
theorem dX10_advances_265 : decode cX10_advances 265 = .ok (.aload_n 0, 1) := by decide +kernel
theorem dX10_advances_266 : decode cX10_advances 266 = .ok (.getfield 80, 3) := by decide +kernel
theorem dX10_advances_269 : decode cX10_advances 269 = .ok (.isub, 1) := by decide +kernel
theorem dX10_advances_270 : decode cX10_advances 270 = .ok (.iconst 1, 1) := by decide +kernel
theorem dX10_advances_271 : decode cX10_advances 271 = .ok (.if_icmp .le 7, 3) := by decide +kernel
theorem dX10_advances_274 : decode cX10_advances 274 = .ok (.iconst 4, 1) := by decide +kernel
theorem dX10_advances_275 : decode cX10_advances 275 = .ok (.goto 4, 3) := by decide +kernel
theorem dX10_advances_278 : decode cX10_advances 278 = .ok (.iconst 2, 1) := by decide +kernel
theorem dX10_advances_279 : decode cX10_advances 279 = .ok (.putfield 83, 3) := by decide +kernel
theorem dX10_advances_282 : decode cX10_advances 282 = .ok (.goto 28, 3) := by decide +kernel
theorem dX10_advances_285 : decode cX10_advances 285 = .ok (.aload_n 0, 1) := by decide +kernel
theorem dX10_advances_286 : decode cX10_advances 286 = .ok (.dup, 1) := by decide +kernel
theorem dX10_advances_287 : decode cX10_advances 287 = .ok (.getfield 73, 3) := by decide +kernel
theorem dX10_advances_290 : decode cX10_advances 290 = .ok (.iconst 1, 1) := by decide +kernel
theorem dX10_advances_291 : decode cX10_advances 291 = .ok (.iadd, 1) := by decide +kernel
theorem dX10_advances_292 : decode cX10_advances 292 = .ok (.putfield 73, 3) := by decide +kernel
theorem dX10_advances_295 : decode cX10_advances 295 = .ok (.aload_n 0, 1) := by decide +kernel
theorem dX10_advances_296 : decode cX10_advances 296 = .ok (.iload_n 1, 1) := by decide +kernel
theorem dX10_advances_297 : decode cX10_advances 297 = .ok (.bipush 59, 2) := by decide +kernel
theorem dX10_advances_299 : decode cX10_advances 299 = .ok (.if_icmp .ne 7, 3) := by decide +kernel
theorem dX10_advances_302 : decode cX10_advances 302 = .ok (.iconst 3, 1) := by decide +kernel
theorem dX10_advances_303 : decode cX10_advances 303 = .ok (.goto 4, 3) := by decide +kernel
theorem dX10_advances_306 : decode cX10_advances 306 = .ok (.iconst 4, 1) := by decide +kernel
theorem dX10_advances_307 : decode cX10_advances 307 = .ok (.putfield 83, 3) := by decide +kernel
theorem dX10_advances_310 : decode cX10_advances 310 = .ok (.return_, 1) := by decide +kernel
theorem dX10_isWell_0 : decode cX10_isWell 0 = .ok (.aload_n 0, 1) := by decide +kernel
theorem dX10_isWell_1 : decode cX10_isWell 1 = .ok (.getfield 93, 3) := by decide +kernel
theorem dX10_isWell_4 : decode cX10_isWell 4 = .ok (.ifCond .ge 7, 3) := by decide +kernel
theorem dX10_isWell_7 : decode cX10_isWell 7 = .ok (.iconst 1, 1) := by decide +kernel
theorem dX10_isWell_8 : decode cX10_isWell 8 = .ok (.goto 4, 3) := by decide +kernel
theorem dX10_isWell_11 : decode cX10_isWell 11 = .ok (.iconst 0, 1) := by decide +kernel
theorem dX10_isWell_12 : decode cX10_isWell 12 = .ok (.ireturn, 1) := by decide +kernel
set_option maxRecDepth 20000 in
theorem ggX10_takes_X10_isWell : GoodIn wsX10_takes wsX10_isWell := goodIn_r _ [8, 2, 34, 35, 36, 37, 38, 39, 40, 41, 42, 43, 44, 45, 46, 47, 48, 49, 50, 51, 52, 53, 54, 55, 56, 57, 58, 59, 60, 61, 62, 63, 64] (by decide +kernel) (by decide +kernel)
set_option maxRecDepth 20000 in
theorem gX10_takes_X10_isWell : GoodIn wsX10_takes (wsV RX10 96 RX10 yX10_isWell wsX10_isWell) := goodIn_app (goodIn_of _ (by decide +kernel)) ggX10_takes_X10_isWell
set_option maxRecDepth 20000 in
theorem ggX10_takes_X10_advances : GoodIn wsX10_takes wsX10_advances := goodIn_r _ [12, 13, 1, 14, 3, 15, 16, 17, 7, 18, 19, 20, 21, 22, 23, 24, 25, 26, 27, 28, 29, 30, 31, 32, 33, 34, 35, 36, 37, 38, 39, 40, 41, 42, 43, 44, 45, 46, 47, 48, 49, 50, 51, 52, 53, 54, 55, 56, 57, 58, 59, 60, 61, 62, 63, 64] (by decide +kernel) (by decide +kernel)
set_option maxRecDepth 20000 in
theorem gX10_takes_X10_advances : GoodIn wsX10_takes (wsV RX10 100 RX10 yX10_advances wsX10_advances) := goodIn_app (goodIn_of _ (by decide +kernel)) ggX10_takes_X10_advances
theorem dX10_takes_0 : decode cX10_takes 0 = .ok (.aload_n 0, 1) := by decide +kernel
theorem dX10_takes_1 : decode cX10_takes 1 = .ok (.invokevirtual 96, 3) := by decide +kernel
theorem dX10_takes_4 : decode cX10_takes 4 = .ok (.ifCond .ne 5, 3) := by decide +kernel
theorem dX10_takes_7 : decode cX10_takes 7 = .ok (.iconst 0, 1) := by decide +kernel
theorem dX10_takes_8 : decode cX10_takes 8 = .ok (.ireturn, 1) := by decide +kernel
theorem dX10_takes_9 : decode cX10_takes 9 = .ok (.iload_n 1, 1) := by decide +kernel
theorem dX10_takes_10 : decode cX10_takes 10 = .ok (.ifCond .ne 13, 3) := by decide +kernel
theorem dX10_takes_13 : decode cX10_takes 13 = .ok (.aload_n 0, 1) := by decide +kernel
theorem dX10_takes_14 : decode cX10_takes 14 = .ok (.aload_n 0, 1) := by decide +kernel
theorem dX10_takes_15 : decode cX10_takes 15 = .ok (.getfield 80, 3) := by decide +kernel
theorem dX10_takes_18 : decode cX10_takes 18 = .ok (.putfield 93, 3) := by decide +kernel
theorem dX10_takes_21 : decode cX10_takes 21 = .ok (.iconst 0, 1) := by decide +kernel
theorem dX10_takes_22 : decode cX10_takes 22 = .ok (.ireturn, 1) := by decide +kernel
theorem dX10_takes_23 : decode cX10_takes 23 = .ok (.aload_n 0, 1) := by decide +kernel
theorem dX10_takes_24 : decode cX10_takes 24 = .ok (.getfield 90, 3) := by decide +kernel
theorem dX10_takes_27 : decode cX10_takes 27 = .ok (.istore_n 2, 1) := by decide +kernel
theorem dX10_takes_28 : decode cX10_takes 28 = .ok (.aload_n 0, 1) := by decide +kernel
theorem dX10_takes_29 : decode cX10_takes 29 = .ok (.invokevirtual 100, 3) := by decide +kernel
theorem dX10_takes_32 : decode cX10_takes 32 = .ok (.iload_n 2, 1) := by decide +kernel
theorem dX10_takes_33 : decode cX10_takes 33 = .ok (.ireturn, 1) := by decide +kernel
set_option maxRecDepth 20000 in
theorem ggX10_number_X10_in : GoodIn wsX10_number wsX10_in := goodIn_r _ [6] (by decide +kernel) (by decide +kernel)
set_option maxRecDepth 20000 in
theorem gX10_number_X10_in : GoodIn wsX10_number (va_wsS RX10 54 yX10_in wsX10_in) := goodIn_app (goodIn_of _ (by decide +kernel)) ggX10_number_X10_in
set_option maxRecDepth 20000 in
theorem ggX10_number_X10_takes : GoodIn wsX10_number wsX10_takes := goodIn_r _ [10, 11, 12, 2, 13, 14, 15, 5, 16, 17, 18, 19, 20, 21, 1, 22, 23, 24, 25, 26, 27, 3, 4, 6, 28, 29, 30, 31, 32, 33, 34, 35, 36, 37, 38, 39, 40, 41, 42, 43, 44, 45, 46, 47, 48, 49, 50, 51, 52, 53, 54, 55, 56, 57, 58, 59, 60, 61, 62, 63, 64, 65, 66, 67, 68] (by decide +kernel) (by decide +kernel)
set_option maxRecDepth 20000 in
theorem gX10_number_X10_takes : GoodIn wsX10_number (wsV RX10 103 RX10 yX10_takes wsX10_takes) := goodIn_app (goodIn_of _ (by decide +kernel)) ggX10_number_X10_takes
theorem dX10_number_0 : decode cX10_number 0 = .ok (.aload_n 0, 1) := by decide +kernel
theorem dX10_number_1 : decode cX10_number 1 = .ok (.aload_n 0, 1) := by decide +kernel
theorem dX10_number_2 : decode cX10_number 2 = .ok (.getfield 83, 3) := by decide +kernel
theorem dX10_number_5 : decode cX10_number 5 = .ok (.iconst 2, 1) := by decide +kernel
theorem dX10_number_6 : decode cX10_number 6 = .ok (.if_icmp .ne 19, 3) := by decide +kernel
theorem dX10_number_9 : decode cX10_number 9 = .ok (.aload_n 0, 1) := by decide +kernel
theorem dX10_number_10 : decode cX10_number 10 = .ok (.getfield 90, 3) := by decide +kernel
theorem dX10_number_13 : decode cX10_number 13 = .ok (.iload_n 1, 1) := by decide +kernel
theorem dX10_number_14 : decode cX10_number 14 = .ok (.iload_n 2, 1) := by decide +kernel
theorem dX10_number_15 : decode cX10_number 15 = .ok (.invokestatic 54, 3) := by decide +kernel
theorem dX10_number_18 : decode cX10_number 18 = .ok (.ifCond .eq 7, 3) := by decide +kernel
theorem dX10_number_21 : decode cX10_number 21 = .ok (.iconst 1, 1) := by decide +kernel
theorem dX10_number_22 : decode cX10_number 22 = .ok (.goto 4, 3) := by decide +kernel
theorem dX10_number_25 : decode cX10_number 25 = .ok (.iconst 0, 1) := by decide +kernel
theorem dX10_number_26 : decode cX10_number 26 = .ok (.invokevirtual 103, 3) := by decide +kernel
theorem dX10_number_29 : decode cX10_number 29 = .ok (.ireturn, 1) := by decide +kernel
theorem dX10_isHouseAt_0 : decode cX10_isHouseAt 0 = .ok (.iconst 0, 1) := by decide +kernel
theorem dX10_isHouseAt_1 : decode cX10_isHouseAt 1 = .ok (.istore_n 3, 1) := by decide +kernel
theorem dX10_isHouseAt_2 : decode cX10_isHouseAt 2 = .ok (.iconst 0, 1) := by decide +kernel
theorem dX10_isHouseAt_3 : decode cX10_isHouseAt 3 = .ok (.istore 4, 2) := by decide +kernel
theorem dX10_isHouseAt_5 : decode cX10_isHouseAt 5 = .ok (.iload 4, 2) := by decide +kernel
theorem dX10_isHouseAt_7 : decode cX10_isHouseAt 7 = .ok (.aload_n 0, 1) := by decide +kernel
theorem dX10_isHouseAt_8 : decode cX10_isHouseAt 8 = .ok (.getfield 107, 3) := by decide +kernel
theorem dX10_isHouseAt_11 : decode cX10_isHouseAt 11 = .ok (.if_icmp .ge 45, 3) := by decide +kernel
theorem dX10_isHouseAt_14 : decode cX10_isHouseAt 14 = .ok (.iload_n 3, 1) := by decide +kernel
theorem dX10_isHouseAt_15 : decode cX10_isHouseAt 15 = .ok (.aload_n 0, 1) := by decide +kernel
theorem dX10_isHouseAt_16 : decode cX10_isHouseAt 16 = .ok (.getfield 19, 3) := by decide +kernel
theorem dX10_isHouseAt_19 : decode cX10_isHouseAt 19 = .ok (.bipush 8, 2) := by decide +kernel
theorem dX10_isHouseAt_21 : decode cX10_isHouseAt 21 = .ok (.iload 4, 2) := by decide +kernel
theorem dX10_isHouseAt_23 : decode cX10_isHouseAt 23 = .ok (.iadd, 1) := by decide +kernel
theorem dX10_isHouseAt_24 : decode cX10_isHouseAt 24 = .ok (.iaload, 1) := by decide +kernel
theorem dX10_isHouseAt_25 : decode cX10_isHouseAt 25 = .ok (.iload_n 1, 1) := by decide +kernel
theorem dX10_isHouseAt_26 : decode cX10_isHouseAt 26 = .ok (.if_icmp .ne 21, 3) := by decide +kernel
theorem dX10_isHouseAt_29 : decode cX10_isHouseAt 29 = .ok (.aload_n 0, 1) := by decide +kernel
theorem dX10_isHouseAt_30 : decode cX10_isHouseAt 30 = .ok (.getfield 22, 3) := by decide +kernel
theorem dX10_isHouseAt_33 : decode cX10_isHouseAt 33 = .ok (.bipush 8, 2) := by decide +kernel
theorem dX10_isHouseAt_35 : decode cX10_isHouseAt 35 = .ok (.iload 4, 2) := by decide +kernel
theorem dX10_isHouseAt_37 : decode cX10_isHouseAt 37 = .ok (.iadd, 1) := by decide +kernel
theorem dX10_isHouseAt_38 : decode cX10_isHouseAt 38 = .ok (.iaload, 1) := by decide +kernel
theorem dX10_isHouseAt_39 : decode cX10_isHouseAt 39 = .ok (.iload_n 2, 1) := by decide +kernel
theorem dX10_isHouseAt_40 : decode cX10_isHouseAt 40 = .ok (.if_icmp .ne 7, 3) := by decide +kernel
theorem dX10_isHouseAt_43 : decode cX10_isHouseAt 43 = .ok (.iconst 1, 1) := by decide +kernel
theorem dX10_isHouseAt_44 : decode cX10_isHouseAt 44 = .ok (.goto 4, 3) := by decide +kernel
theorem dX10_isHouseAt_47 : decode cX10_isHouseAt 47 = .ok (.iconst 0, 1) := by decide +kernel
theorem dX10_isHouseAt_48 : decode cX10_isHouseAt 48 = .ok (.ior, 1) := by decide +kernel
theorem dX10_isHouseAt_49 : decode cX10_isHouseAt 49 = .ok (.istore_n 3, 1) := by decide +kernel
theorem dX10_isHouseAt_50 : decode cX10_isHouseAt 50 = .ok (.iinc 4 1, 3) := by decide +kernel
theorem dX10_isHouseAt_53 : decode cX10_isHouseAt 53 = .ok (.goto (-48), 3) := by decide +kernel
theorem dX10_isHouseAt_56 : decode cX10_isHouseAt 56 = .ok (.iload_n 3, 1) := by decide +kernel
theorem dX10_isHouseAt_57 : decode cX10_isHouseAt 57 = .ok (.ireturn, 1) := by decide +kernel
set_option maxRecDepth 20000 in
theorem ggX10_readsRoof_X10_in : GoodIn wsX10_readsRoof wsX10_in := goodIn_r _ [10] (by decide +kernel) (by decide +kernel)
set_option maxRecDepth 20000 in
theorem gX10_readsRoof_X10_in : GoodIn wsX10_readsRoof (va_wsS RX10 54 yX10_in wsX10_in) := goodIn_app (goodIn_of _ (by decide +kernel)) ggX10_readsRoof_X10_in
set_option maxRecDepth 20000 in
theorem ggX10_readsRoof_X10_takes : GoodIn wsX10_readsRoof wsX10_takes := goodIn_r _ [14, 15, 16, 2, 17, 18, 19, 9, 20, 21, 22, 23, 24, 25, 1, 26, 27, 28, 29, 30, 31, 7, 8, 10, 32, 33, 34, 35, 36, 37, 38, 39, 40, 41, 42, 43, 44, 45, 46, 47, 48, 49, 50, 51, 52, 53, 54, 55, 56, 57, 58, 59, 60, 61, 62, 63, 64, 65, 66, 67, 68, 69, 70, 71, 72] (by decide +kernel) (by decide +kernel)
set_option maxRecDepth 20000 in
theorem gX10_readsRoof_X10_takes : GoodIn wsX10_readsRoof (wsV RX10 103 RX10 yX10_takes wsX10_takes) := goodIn_app (goodIn_of _ (by decide +kernel)) ggX10_readsRoof_X10_takes
set_option maxRecDepth 20000 in
theorem ggX10_readsRoof_X10_isWell : GoodIn wsX10_readsRoof wsX10_isWell := goodIn_r _ [20, 16, 42, 43, 44, 45, 46, 47, 48, 49, 50, 51, 52, 53, 54, 55, 56, 57, 58, 59, 60, 61, 62, 63, 64, 65, 66, 67, 68, 69, 70, 71, 72] (by decide +kernel) (by decide +kernel)
set_option maxRecDepth 20000 in
theorem gX10_readsRoof_X10_isWell : GoodIn wsX10_readsRoof (wsV RX10 96 RX10 yX10_isWell wsX10_isWell) := goodIn_app (goodIn_of _ (by decide +kernel)) ggX10_readsRoof_X10_isWell
theorem dX10_readsRoof_0 : decode cX10_readsRoof 0 = .ok (.aload_n 0, 1) := by decide +kernel
theorem dX10_readsRoof_1 : decode cX10_readsRoof 1 = .ok (.aload_n 0, 1) := by decide +kernel
theorem dX10_readsRoof_2 : decode cX10_readsRoof 2 = .ok (.getfield 83, 3) := by decide +kernel
theorem dX10_readsRoof_5 : decode cX10_readsRoof 5 = .ok (.iconst 2, 1) := by decide +kernel
theorem dX10_readsRoof_6 : decode cX10_readsRoof 6 = .ok (.if_icmp .ne 46, 3) := by decide +kernel
theorem dX10_readsRoof_9 : decode cX10_readsRoof 9 = .ok (.aload_n 0, 1) := by decide +kernel
theorem dX10_readsRoof_10 : decode cX10_readsRoof 10 = .ok (.getfield 90, 3) := by decide +kernel
theorem dX10_readsRoof_13 : decode cX10_readsRoof 13 = .ok (.iconst 0, 1) := by decide +kernel
theorem dX10_readsRoof_14 : decode cX10_readsRoof 14 = .ok (.aload_n 0, 1) := by decide +kernel
theorem dX10_readsRoof_15 : decode cX10_readsRoof 15 = .ok (.getfield 107, 3) := by decide +kernel
theorem dX10_readsRoof_18 : decode cX10_readsRoof 18 = .ok (.iconst 1, 1) := by decide +kernel
theorem dX10_readsRoof_19 : decode cX10_readsRoof 19 = .ok (.isub, 1) := by decide +kernel
theorem dX10_readsRoof_20 : decode cX10_readsRoof 20 = .ok (.invokestatic 54, 3) := by decide +kernel
theorem dX10_readsRoof_23 : decode cX10_readsRoof 23 = .ok (.ifCond .eq 29, 3) := by decide +kernel
theorem dX10_readsRoof_26 : decode cX10_readsRoof 26 = .ok (.iload_n 1, 1) := by decide +kernel
theorem dX10_readsRoof_27 : decode cX10_readsRoof 27 = .ok (.iconst 2, 1) := by decide +kernel
theorem dX10_readsRoof_28 : decode cX10_readsRoof 28 = .ok (.if_icmp .eq 20, 3) := by decide +kernel
theorem dX10_readsRoof_31 : decode cX10_readsRoof 31 = .ok (.aload_n 0, 1) := by decide +kernel
theorem dX10_readsRoof_32 : decode cX10_readsRoof 32 = .ok (.getfield 25, 3) := by decide +kernel
theorem dX10_readsRoof_35 : decode cX10_readsRoof 35 = .ok (.bipush 8, 2) := by decide +kernel
theorem dX10_readsRoof_37 : decode cX10_readsRoof 37 = .ok (.aload_n 0, 1) := by decide +kernel
theorem dX10_readsRoof_38 : decode cX10_readsRoof 38 = .ok (.getfield 90, 3) := by decide +kernel
theorem dX10_readsRoof_41 : decode cX10_readsRoof 41 = .ok (.iadd, 1) := by decide +kernel
theorem dX10_readsRoof_42 : decode cX10_readsRoof 42 = .ok (.iaload, 1) := by decide +kernel
theorem dX10_readsRoof_43 : decode cX10_readsRoof 43 = .ok (.bipush (-9), 2) := by decide +kernel
theorem dX10_readsRoof_45 : decode cX10_readsRoof 45 = .ok (.if_icmp .ne 7, 3) := by decide +kernel
theorem dX10_readsRoof_48 : decode cX10_readsRoof 48 = .ok (.iconst 1, 1) := by decide +kernel
theorem dX10_readsRoof_49 : decode cX10_readsRoof 49 = .ok (.goto 4, 3) := by decide +kernel
theorem dX10_readsRoof_52 : decode cX10_readsRoof 52 = .ok (.iconst 0, 1) := by decide +kernel
theorem dX10_readsRoof_53 : decode cX10_readsRoof 53 = .ok (.invokevirtual 103, 3) := by decide +kernel
theorem dX10_readsRoof_56 : decode cX10_readsRoof 56 = .ok (.istore_n 2, 1) := by decide +kernel
theorem dX10_readsRoof_57 : decode cX10_readsRoof 57 = .ok (.aload_n 0, 1) := by decide +kernel
theorem dX10_readsRoof_58 : decode cX10_readsRoof 58 = .ok (.aload_n 0, 1) := by decide +kernel
theorem dX10_readsRoof_59 : decode cX10_readsRoof 59 = .ok (.getfield 83, 3) := by decide +kernel
theorem dX10_readsRoof_62 : decode cX10_readsRoof 62 = .ok (.iconst 2, 1) := by decide +kernel
theorem dX10_readsRoof_63 : decode cX10_readsRoof 63 = .ok (.if_icmp .ne 59, 3) := by decide +kernel
theorem dX10_readsRoof_66 : decode cX10_readsRoof 66 = .ok (.aload_n 0, 1) := by decide +kernel
theorem dX10_readsRoof_67 : decode cX10_readsRoof 67 = .ok (.getfield 90, 3) := by decide +kernel
theorem dX10_readsRoof_70 : decode cX10_readsRoof 70 = .ok (.iconst 0, 1) := by decide +kernel
theorem dX10_readsRoof_71 : decode cX10_readsRoof 71 = .ok (.aload_n 0, 1) := by decide +kernel
theorem dX10_readsRoof_72 : decode cX10_readsRoof 72 = .ok (.getfield 110, 3) := by decide +kernel
theorem dX10_readsRoof_75 : decode cX10_readsRoof 75 = .ok (.iconst 1, 1) := by decide +kernel
theorem dX10_readsRoof_76 : decode cX10_readsRoof 76 = .ok (.isub, 1) := by decide +kernel
theorem dX10_readsRoof_77 : decode cX10_readsRoof 77 = .ok (.invokestatic 54, 3) := by decide +kernel
theorem dX10_readsRoof_80 : decode cX10_readsRoof 80 = .ok (.ifCond .eq 42, 3) := by decide +kernel
theorem dX10_readsRoof_83 : decode cX10_readsRoof 83 = .ok (.iload_n 1, 1) := by decide +kernel
theorem dX10_readsRoof_84 : decode cX10_readsRoof 84 = .ok (.iconst 3, 1) := by decide +kernel
theorem dX10_readsRoof_85 : decode cX10_readsRoof 85 = .ok (.if_icmp .eq 33, 3) := by decide +kernel
theorem dX10_readsRoof_88 : decode cX10_readsRoof 88 = .ok (.aload_n 0, 1) := by decide +kernel
theorem dX10_readsRoof_89 : decode cX10_readsRoof 89 = .ok (.getfield 25, 3) := by decide +kernel
theorem dX10_readsRoof_92 : decode cX10_readsRoof 92 = .ok (.bipush 8, 2) := by decide +kernel
theorem dX10_readsRoof_94 : decode cX10_readsRoof 94 = .ok (.iload_n 2, 1) := by decide +kernel
theorem dX10_readsRoof_95 : decode cX10_readsRoof 95 = .ok (.iadd, 1) := by decide +kernel
theorem dX10_readsRoof_96 : decode cX10_readsRoof 96 = .ok (.iaload, 1) := by decide +kernel
theorem dX10_readsRoof_97 : decode cX10_readsRoof 97 = .ok (.bipush (-9), 2) := by decide +kernel
theorem dX10_readsRoof_99 : decode cX10_readsRoof 99 = .ok (.if_icmp .eq 19, 3) := by decide +kernel
theorem dX10_readsRoof_102 : decode cX10_readsRoof 102 = .ok (.aload_n 0, 1) := by decide +kernel
theorem dX10_readsRoof_103 : decode cX10_readsRoof 103 = .ok (.getfield 25, 3) := by decide +kernel
theorem dX10_readsRoof_106 : decode cX10_readsRoof 106 = .ok (.bipush 8, 2) := by decide +kernel
theorem dX10_readsRoof_108 : decode cX10_readsRoof 108 = .ok (.iload_n 2, 1) := by decide +kernel
theorem dX10_readsRoof_109 : decode cX10_readsRoof 109 = .ok (.iadd, 1) := by decide +kernel
theorem dX10_readsRoof_110 : decode cX10_readsRoof 110 = .ok (.iaload, 1) := by decide +kernel
theorem dX10_readsRoof_111 : decode cX10_readsRoof 111 = .ok (.aload_n 0, 1) := by decide +kernel
theorem dX10_readsRoof_112 : decode cX10_readsRoof 112 = .ok (.getfield 90, 3) := by decide +kernel
theorem dX10_readsRoof_115 : decode cX10_readsRoof 115 = .ok (.if_icmp .ne 7, 3) := by decide +kernel
theorem dX10_readsRoof_118 : decode cX10_readsRoof 118 = .ok (.iconst 1, 1) := by decide +kernel
theorem dX10_readsRoof_119 : decode cX10_readsRoof 119 = .ok (.goto 4, 3) := by decide +kernel
theorem dX10_readsRoof_122 : decode cX10_readsRoof 122 = .ok (.iconst 0, 1) := by decide +kernel
theorem dX10_readsRoof_123 : decode cX10_readsRoof 123 = .ok (.invokevirtual 103, 3) := by decide +kernel
theorem dX10_readsRoof_126 : decode cX10_readsRoof 126 = .ok (.istore_n 3, 1) := by decide +kernel
theorem dX10_readsRoof_127 : decode cX10_readsRoof 127 = .ok (.aload_n 0, 1) := by decide +kernel
theorem dX10_readsRoof_128 : decode cX10_readsRoof 128 = .ok (.invokevirtual 96, 3) := by decide +kernel
theorem dX10_readsRoof_131 : decode cX10_readsRoof 131 = .ok (.ifCond .eq 37, 3) := by decide +kernel
theorem dX10_readsRoof_134 : decode cX10_readsRoof 134 = .ok (.aload_n 0, 1) := by decide +kernel
theorem dX10_readsRoof_135 : decode cX10_readsRoof 135 = .ok (.getfield 28, 3) := by decide +kernel
theorem dX10_readsRoof_138 : decode cX10_readsRoof 138 = .ok (.iload_n 2, 1) := by decide +kernel
theorem dX10_readsRoof_139 : decode cX10_readsRoof 139 = .ok (.iload_n 3, 1) := by decide +kernel
theorem dX10_readsRoof_140 : decode cX10_readsRoof 140 = .ok (.iastore, 1) := by decide +kernel
theorem dX10_readsRoof_141 : decode cX10_readsRoof 141 = .ok (.aload_n 0, 1) := by decide +kernel
theorem dX10_readsRoof_142 : decode cX10_readsRoof 142 = .ok (.getfield 25, 3) := by decide +kernel
theorem dX10_readsRoof_145 : decode cX10_readsRoof 145 = .ok (.bipush 8, 2) := by decide +kernel
theorem dX10_readsRoof_147 : decode cX10_readsRoof 147 = .ok (.iload_n 2, 1) := by decide +kernel
theorem dX10_readsRoof_148 : decode cX10_readsRoof 148 = .ok (.iadd, 1) := by decide +kernel
theorem dX10_readsRoof_149 : decode cX10_readsRoof 149 = .ok (.iload_n 1, 1) := by decide +kernel
theorem dX10_readsRoof_150 : decode cX10_readsRoof 150 = .ok (.iconst 3, 1) := by decide +kernel
theorem dX10_readsRoof_151 : decode cX10_readsRoof 151 = .ok (.if_icmp .ne 7, 3) := by decide +kernel
theorem dX10_readsRoof_154 : decode cX10_readsRoof 154 = .ok (.iload_n 3, 1) := by decide +kernel
theorem dX10_readsRoof_155 : decode cX10_readsRoof 155 = .ok (.goto 12, 3) := by decide +kernel
theorem dX10_readsRoof_158 : decode cX10_readsRoof 158 = .ok (.aload_n 0, 1) := by decide +kernel
theorem dX10_readsRoof_159 : decode cX10_readsRoof 159 = .ok (.getfield 25, 3) := by decide +kernel
theorem dX10_readsRoof_162 : decode cX10_readsRoof 162 = .ok (.bipush 8, 2) := by decide +kernel
theorem dX10_readsRoof_164 : decode cX10_readsRoof 164 = .ok (.iload_n 2, 1) := by decide +kernel
theorem dX10_readsRoof_165 : decode cX10_readsRoof 165 = .ok (.iadd, 1) := by decide +kernel
theorem dX10_readsRoof_166 : decode cX10_readsRoof 166 = .ok (.iaload, 1) := by decide +kernel
theorem dX10_readsRoof_167 : decode cX10_readsRoof 167 = .ok (.iastore, 1) := by decide +kernel
theorem dX10_readsRoof_168 : decode cX10_readsRoof 168 = .ok (.return_, 1) := by decide +kernel
set_option maxRecDepth 20000 in
theorem ggX10_readsItem_X10_number : GoodIn wsX10_readsItem wsX10_number := goodIn_r _ [17, 4, 5, 18, 19, 16, 20, 21, 22, 23, 24, 25, 26, 27, 28, 29, 30, 31, 32, 33, 34, 35, 36, 37, 38, 39, 40, 41, 42, 43, 44, 45, 46, 47, 48, 49, 50, 51, 60, 61, 62, 63, 64, 65, 66, 67, 68, 69, 70, 71, 72, 73, 74, 75, 76, 77, 78, 79, 80, 81, 82, 83, 84, 85, 86, 87, 88, 89, 90] (by decide +kernel) (by decide +kernel)
set_option maxRecDepth 20000 in
theorem gX10_readsItem_X10_number : GoodIn wsX10_readsItem (wsV RX10 113 RX10 yX10_number wsX10_number) := goodIn_app (goodIn_of _ (by decide +kernel)) ggX10_readsItem_X10_number
set_option maxRecDepth 20000 in
theorem ggX10_readsItem_X10_in : GoodIn wsX10_readsItem wsX10_in := goodIn_r _ [20] (by decide +kernel) (by decide +kernel)
set_option maxRecDepth 20000 in
theorem gX10_readsItem_X10_in : GoodIn wsX10_readsItem (va_wsS RX10 54 yX10_in wsX10_in) := goodIn_app (goodIn_of _ (by decide +kernel)) ggX10_readsItem_X10_in
set_option maxRecDepth 20000 in
theorem ggX10_readsItem_X10_isHouseAt : GoodIn wsX10_readsItem wsX10_isHouseAt := goodIn_r _ [55, 7, 6, 8, 60, 61, 62, 63, 64, 65, 66, 67, 68, 69, 70, 71, 72, 73, 74, 75, 76, 77, 78, 79, 80, 81, 82, 83, 84, 85, 86, 87, 88, 89, 90] (by decide +kernel) (by decide +kernel)
set_option maxRecDepth 20000 in
theorem gX10_readsItem_X10_isHouseAt : GoodIn wsX10_readsItem (wsV RX10 117 RX10 yX10_isHouseAt wsX10_isHouseAt) := goodIn_app (goodIn_of _ (by decide +kernel)) ggX10_readsItem_X10_isHouseAt
set_option maxRecDepth 20000 in
theorem ggX10_readsItem_X10_takes : GoodIn wsX10_readsItem wsX10_takes := goodIn_r _ [24, 25, 26, 5, 27, 28, 29, 16, 30, 31, 32, 33, 34, 35, 4, 36, 37, 38, 39, 40, 41, 18, 19, 20, 42, 43, 44, 45, 46, 47, 48, 49, 50, 51, 60, 61, 62, 63, 64, 65, 66, 67, 68, 69, 70, 71, 72, 73, 74, 75, 76, 77, 78, 79, 80, 81, 82, 83, 84, 85, 86, 87, 88, 89, 90] (by decide +kernel) (by decide +kernel)
set_option maxRecDepth 20000 in
theorem gX10_readsItem_X10_takes : GoodIn wsX10_readsItem (wsV RX10 103 RX10 yX10_takes wsX10_takes) := goodIn_app (goodIn_of _ (by decide +kernel)) ggX10_readsItem_X10_takes
set_option maxRecDepth 20000 in
theorem ggX10_readsItem_X10_readsRoof : GoodIn wsX10_readsItem wsX10_readsRoof := goodIn_r _ [59, 4, 5, 7, 9, 2, 10, 18, 19, 16, 20, 21, 22, 23, 24, 25, 26, 27, 28, 29, 30, 31, 32, 33, 34, 35, 36, 37, 38, 39, 40, 41, 42, 43, 44, 45, 46, 47, 48, 49, 50, 51, 60, 61, 62, 63, 64, 65, 66, 67, 68, 69, 70, 71, 72, 73, 74, 75, 76, 77, 78, 79, 80, 81, 82, 83, 84, 85, 86, 87, 88, 89, 90] (by decide +kernel) (by decide +kernel)
set_option maxRecDepth 20000 in
theorem gX10_readsItem_X10_readsRoof : GoodIn wsX10_readsItem (wsV RX10 128 RX10 yX10_readsRoof wsX10_readsRoof) := goodIn_app (goodIn_of _ (by decide +kernel)) ggX10_readsItem_X10_readsRoof
theorem dX10_readsItem_0 : decode cX10_readsItem 0 = .ok (.iload_n 1, 1) := by decide +kernel
theorem dX10_readsItem_1 : decode cX10_readsItem 1 = .ok (.ifCond .ne 52, 3) := by decide +kernel
theorem dX10_readsItem_4 : decode cX10_readsItem 4 = .ok (.aload_n 0, 1) := by decide +kernel
theorem dX10_readsItem_5 : decode cX10_readsItem 5 = .ok (.getfield 13, 3) := by decide +kernel
theorem dX10_readsItem_8 : decode cX10_readsItem 8 = .ok (.iconst 4, 1) := by decide +kernel
theorem dX10_readsItem_9 : decode cX10_readsItem 9 = .ok (.aload_n 0, 1) := by decide +kernel
theorem dX10_readsItem_10 : decode cX10_readsItem 10 = .ok (.getfield 110, 3) := by decide +kernel
theorem dX10_readsItem_13 : decode cX10_readsItem 13 = .ok (.iadd, 1) := by decide +kernel
theorem dX10_readsItem_14 : decode cX10_readsItem 14 = .ok (.aload_n 0, 1) := by decide +kernel
theorem dX10_readsItem_15 : decode cX10_readsItem 15 = .ok (.iconst 1, 1) := by decide +kernel
theorem dX10_readsItem_16 : decode cX10_readsItem 16 = .ok (.bipush 99, 2) := by decide +kernel
theorem dX10_readsItem_18 : decode cX10_readsItem 18 = .ok (.invokevirtual 113, 3) := by decide +kernel
theorem dX10_readsItem_21 : decode cX10_readsItem 21 = .ok (.iastore, 1) := by decide +kernel
theorem dX10_readsItem_22 : decode cX10_readsItem 22 = .ok (.aload_n 0, 1) := by decide +kernel
theorem dX10_readsItem_23 : decode cX10_readsItem 23 = .ok (.getfield 16, 3) := by decide +kernel
theorem dX10_readsItem_26 : decode cX10_readsItem 26 = .ok (.iconst 4, 1) := by decide +kernel
theorem dX10_readsItem_27 : decode cX10_readsItem 27 = .ok (.aload_n 0, 1) := by decide +kernel
theorem dX10_readsItem_28 : decode cX10_readsItem 28 = .ok (.getfield 110, 3) := by decide +kernel
theorem dX10_readsItem_31 : decode cX10_readsItem 31 = .ok (.iadd, 1) := by decide +kernel
theorem dX10_readsItem_32 : decode cX10_readsItem 32 = .ok (.aload_n 0, 1) := by decide +kernel
theorem dX10_readsItem_33 : decode cX10_readsItem 33 = .ok (.iconst 0, 1) := by decide +kernel
theorem dX10_readsItem_34 : decode cX10_readsItem 34 = .ok (.bipush 9, 2) := by decide +kernel
theorem dX10_readsItem_36 : decode cX10_readsItem 36 = .ok (.invokevirtual 113, 3) := by decide +kernel
theorem dX10_readsItem_39 : decode cX10_readsItem 39 = .ok (.iastore, 1) := by decide +kernel
theorem dX10_readsItem_40 : decode cX10_readsItem 40 = .ok (.aload_n 0, 1) := by decide +kernel
theorem dX10_readsItem_41 : decode cX10_readsItem 41 = .ok (.dup, 1) := by decide +kernel
theorem dX10_readsItem_42 : decode cX10_readsItem 42 = .ok (.getfield 110, 3) := by decide +kernel
theorem dX10_readsItem_45 : decode cX10_readsItem 45 = .ok (.iconst 1, 1) := by decide +kernel
theorem dX10_readsItem_46 : decode cX10_readsItem 46 = .ok (.iadd, 1) := by decide +kernel
theorem dX10_readsItem_47 : decode cX10_readsItem 47 = .ok (.putfield 110, 3) := by decide +kernel
theorem dX10_readsItem_50 : decode cX10_readsItem 50 = .ok (.goto 177, 3) := by decide +kernel
theorem dX10_readsItem_53 : decode cX10_readsItem 53 = .ok (.iload_n 1, 1) := by decide +kernel
theorem dX10_readsItem_54 : decode cX10_readsItem 54 = .ok (.iconst 1, 1) := by decide +kernel
theorem dX10_readsItem_55 : decode cX10_readsItem 55 = .ok (.if_icmp .ne 118, 3) := by decide +kernel
theorem dX10_readsItem_58 : decode cX10_readsItem 58 = .ok (.aload_n 0, 1) := by decide +kernel
theorem dX10_readsItem_59 : decode cX10_readsItem 59 = .ok (.iconst 0, 1) := by decide +kernel
theorem dX10_readsItem_60 : decode cX10_readsItem 60 = .ok (.bipush 7, 2) := by decide +kernel
theorem dX10_readsItem_62 : decode cX10_readsItem 62 = .ok (.invokevirtual 113, 3) := by decide +kernel
theorem dX10_readsItem_65 : decode cX10_readsItem 65 = .ok (.istore_n 2, 1) := by decide +kernel
theorem dX10_readsItem_66 : decode cX10_readsItem 66 = .ok (.aload_n 0, 1) := by decide +kernel
theorem dX10_readsItem_67 : decode cX10_readsItem 67 = .ok (.aload_n 0, 1) := by decide +kernel
theorem dX10_readsItem_68 : decode cX10_readsItem 68 = .ok (.getfield 83, 3) := by decide +kernel
theorem dX10_readsItem_71 : decode cX10_readsItem 71 = .ok (.iconst 2, 1) := by decide +kernel
theorem dX10_readsItem_72 : decode cX10_readsItem 72 = .ok (.if_icmp .ne 32, 3) := by decide +kernel
theorem dX10_readsItem_75 : decode cX10_readsItem 75 = .ok (.aload_n 0, 1) := by decide +kernel
theorem dX10_readsItem_76 : decode cX10_readsItem 76 = .ok (.getfield 90, 3) := by decide +kernel
theorem dX10_readsItem_79 : decode cX10_readsItem 79 = .ok (.iconst 0, 1) := by decide +kernel
theorem dX10_readsItem_80 : decode cX10_readsItem 80 = .ok (.bipush 7, 2) := by decide +kernel
theorem dX10_readsItem_82 : decode cX10_readsItem 82 = .ok (.invokestatic 54, 3) := by decide +kernel
theorem dX10_readsItem_85 : decode cX10_readsItem 85 = .ok (.ifCond .eq 19, 3) := by decide +kernel
theorem dX10_readsItem_88 : decode cX10_readsItem 88 = .ok (.aload_n 0, 1) := by decide +kernel
theorem dX10_readsItem_89 : decode cX10_readsItem 89 = .ok (.iload_n 2, 1) := by decide +kernel
theorem dX10_readsItem_90 : decode cX10_readsItem 90 = .ok (.aload_n 0, 1) := by decide +kernel
theorem dX10_readsItem_91 : decode cX10_readsItem 91 = .ok (.getfield 90, 3) := by decide +kernel
theorem dX10_readsItem_94 : decode cX10_readsItem 94 = .ok (.invokevirtual 117, 3) := by decide +kernel
theorem dX10_readsItem_97 : decode cX10_readsItem 97 = .ok (.ifCond .ne 7, 3) := by decide +kernel
theorem dX10_readsItem_100 : decode cX10_readsItem 100 = .ok (.iconst 1, 1) := by decide +kernel
theorem dX10_readsItem_101 : decode cX10_readsItem 101 = .ok (.goto 4, 3) := by decide +kernel
theorem dX10_readsItem_104 : decode cX10_readsItem 104 = .ok (.iconst 0, 1) := by decide +kernel
theorem dX10_readsItem_105 : decode cX10_readsItem 105 = .ok (.invokevirtual 103, 3) := by decide +kernel
theorem dX10_readsItem_108 : decode cX10_readsItem 108 = .ok (.istore_n 3, 1) := by decide +kernel
theorem dX10_readsItem_109 : decode cX10_readsItem 109 = .ok (.aload_n 0, 1) := by decide +kernel
theorem dX10_readsItem_110 : decode cX10_readsItem 110 = .ok (.getfield 19, 3) := by decide +kernel
theorem dX10_readsItem_113 : decode cX10_readsItem 113 = .ok (.bipush 8, 2) := by decide +kernel
theorem dX10_readsItem_115 : decode cX10_readsItem 115 = .ok (.aload_n 0, 1) := by decide +kernel
theorem dX10_readsItem_116 : decode cX10_readsItem 116 = .ok (.getfield 107, 3) := by decide +kernel
theorem dX10_readsItem_119 : decode cX10_readsItem 119 = .ok (.iadd, 1) := by decide +kernel
theorem dX10_readsItem_120 : decode cX10_readsItem 120 = .ok (.iload_n 2, 1) := by decide +kernel
theorem dX10_readsItem_121 : decode cX10_readsItem 121 = .ok (.iastore, 1) := by decide +kernel
theorem dX10_readsItem_122 : decode cX10_readsItem 122 = .ok (.aload_n 0, 1) := by decide +kernel
theorem dX10_readsItem_123 : decode cX10_readsItem 123 = .ok (.getfield 22, 3) := by decide +kernel
theorem dX10_readsItem_126 : decode cX10_readsItem 126 = .ok (.bipush 8, 2) := by decide +kernel
theorem dX10_readsItem_128 : decode cX10_readsItem 128 = .ok (.aload_n 0, 1) := by decide +kernel
theorem dX10_readsItem_129 : decode cX10_readsItem 129 = .ok (.getfield 107, 3) := by decide +kernel
theorem dX10_readsItem_132 : decode cX10_readsItem 132 = .ok (.iadd, 1) := by decide +kernel
theorem dX10_readsItem_133 : decode cX10_readsItem 133 = .ok (.iload_n 3, 1) := by decide +kernel
theorem dX10_readsItem_134 : decode cX10_readsItem 134 = .ok (.iastore, 1) := by decide +kernel
theorem dX10_readsItem_135 : decode cX10_readsItem 135 = .ok (.aload_n 0, 1) := by decide +kernel
theorem dX10_readsItem_136 : decode cX10_readsItem 136 = .ok (.getfield 25, 3) := by decide +kernel
theorem dX10_readsItem_139 : decode cX10_readsItem 139 = .ok (.bipush 8, 2) := by decide +kernel
theorem dX10_readsItem_141 : decode cX10_readsItem 141 = .ok (.aload_n 0, 1) := by decide +kernel
theorem dX10_readsItem_142 : decode cX10_readsItem 142 = .ok (.getfield 107, 3) := by decide +kernel
theorem dX10_readsItem_145 : decode cX10_readsItem 145 = .ok (.iadd, 1) := by decide +kernel
theorem dX10_readsItem_146 : decode cX10_readsItem 146 = .ok (.bipush (-9), 2) := by decide +kernel
theorem dX10_readsItem_148 : decode cX10_readsItem 148 = .ok (.iastore, 1) := by decide +kernel
theorem dX10_readsItem_149 : decode cX10_readsItem 149 = .ok (.aload_n 0, 1) := by decide +kernel
theorem dX10_readsItem_150 : decode cX10_readsItem 150 = .ok (.getfield 28, 3) := by decide +kernel
theorem dX10_readsItem_153 : decode cX10_readsItem 153 = .ok (.aload_n 0, 1) := by decide +kernel
theorem dX10_readsItem_154 : decode cX10_readsItem 154 = .ok (.getfield 107, 3) := by decide +kernel
theorem dX10_readsItem_157 : decode cX10_readsItem 157 = .ok (.bipush (-9), 2) := by decide +kernel
theorem dX10_readsItem_159 : decode cX10_readsItem 159 = .ok (.iastore, 1) := by decide +kernel
theorem dX10_readsItem_160 : decode cX10_readsItem 160 = .ok (.aload_n 0, 1) := by decide +kernel
theorem dX10_readsItem_161 : decode cX10_readsItem 161 = .ok (.dup, 1) := by decide +kernel
theorem dX10_readsItem_162 : decode cX10_readsItem 162 = .ok (.getfield 107, 3) := by decide +kernel
theorem dX10_readsItem_165 : decode cX10_readsItem 165 = .ok (.iconst 1, 1) := by decide +kernel
theorem dX10_readsItem_166 : decode cX10_readsItem 166 = .ok (.iadd, 1) := by decide +kernel
theorem dX10_readsItem_167 : decode cX10_readsItem 167 = .ok (.putfield 107, 3) := by decide +kernel
theorem dX10_readsItem_170 : decode cX10_readsItem 170 = .ok (.goto 57, 3) := by decide +kernel
theorem dX10_readsItem_173 : decode cX10_readsItem 173 = .ok (.iload_n 1, 1) := by decide +kernel
theorem dX10_readsItem_174 : decode cX10_readsItem 174 = .ok (.iconst 4, 1) := by decide +kernel
theorem dX10_readsItem_175 : decode cX10_readsItem 175 = .ok (.if_icmp .ne 47, 3) := by decide +kernel
theorem dX10_readsItem_178 : decode cX10_readsItem 178 = .ok (.aload_n 0, 1) := by decide +kernel
theorem dX10_readsItem_179 : decode cX10_readsItem 179 = .ok (.aload_n 0, 1) := by decide +kernel
theorem dX10_readsItem_180 : decode cX10_readsItem 180 = .ok (.aload_n 0, 1) := by decide +kernel
theorem dX10_readsItem_181 : decode cX10_readsItem 181 = .ok (.getfield 83, 3) := by decide +kernel
theorem dX10_readsItem_184 : decode cX10_readsItem 184 = .ok (.iconst 1, 1) := by decide +kernel
theorem dX10_readsItem_185 : decode cX10_readsItem 185 = .ok (.if_icmp .ne 20, 3) := by decide +kernel
theorem dX10_readsItem_188 : decode cX10_readsItem 188 = .ok (.aload_n 0, 1) := by decide +kernel
theorem dX10_readsItem_189 : decode cX10_readsItem 189 = .ok (.getfield 90, 3) := by decide +kernel
theorem dX10_readsItem_192 : decode cX10_readsItem 192 = .ok (.iconst 5, 1) := by decide +kernel
theorem dX10_readsItem_193 : decode cX10_readsItem 193 = .ok (.bipush 9, 2) := by decide +kernel
theorem dX10_readsItem_195 : decode cX10_readsItem 195 = .ok (.invokestatic 54, 3) := by decide +kernel
theorem dX10_readsItem_198 : decode cX10_readsItem 198 = .ok (.ifCond .eq 7, 3) := by decide +kernel
theorem dX10_readsItem_201 : decode cX10_readsItem 201 = .ok (.iconst 1, 1) := by decide +kernel
theorem dX10_readsItem_202 : decode cX10_readsItem 202 = .ok (.goto 4, 3) := by decide +kernel
theorem dX10_readsItem_205 : decode cX10_readsItem 205 = .ok (.iconst 0, 1) := by decide +kernel
theorem dX10_readsItem_206 : decode cX10_readsItem 206 = .ok (.invokevirtual 103, 3) := by decide +kernel
theorem dX10_readsItem_209 : decode cX10_readsItem 209 = .ok (.iconst 5, 1) := by decide +kernel
theorem dX10_readsItem_210 : decode cX10_readsItem 210 = .ok (.isub, 1) := by decide +kernel
theorem dX10_readsItem_211 : decode cX10_readsItem 211 = .ok (.putfield 121, 3) := by decide +kernel
theorem dX10_readsItem_214 : decode cX10_readsItem 214 = .ok (.aload_n 0, 1) := by decide +kernel
theorem dX10_readsItem_215 : decode cX10_readsItem 215 = .ok (.iconst 1, 1) := by decide +kernel
theorem dX10_readsItem_216 : decode cX10_readsItem 216 = .ok (.putfield 124, 3) := by decide +kernel
theorem dX10_readsItem_219 : decode cX10_readsItem 219 = .ok (.goto 8, 3) := by decide +kernel
theorem dX10_readsItem_222 : decode cX10_readsItem 222 = .ok (.aload_n 0, 1) := by decide +kernel
theorem dX10_readsItem_223 : decode cX10_readsItem 223 = .ok (.iload_n 1, 1) := by decide +kernel
theorem dX10_readsItem_224 : decode cX10_readsItem 224 = .ok (.invokevirtual 128, 3) := by decide +kernel
theorem dX10_readsItem_227 : decode cX10_readsItem 227 = .ok (.return_, 1) := by decide +kernel
set_option maxRecDepth 20000 in
theorem ggX10_town_X10_advances : GoodIn wsX10_town wsX10_advances := goodIn_r _ [25, 3, 26, 8, 9, 27, 28, 29, 24, 30, 19, 31, 32, 33, 34, 35, 36, 37, 38, 39, 40, 41, 42, 43, 44, 69, 70, 71, 72, 73, 74, 75, 76, 77, 78, 79, 80, 81, 82, 83, 84, 85, 86, 87, 88, 89, 90, 91, 92, 93, 94, 95, 96, 97, 98, 99] (by decide +kernel) (by decide +kernel)
set_option maxRecDepth 20000 in
theorem gX10_town_X10_advances : GoodIn wsX10_town (wsV RX10 100 RX10 yX10_advances wsX10_advances) := goodIn_app (goodIn_of _ (by decide +kernel)) ggX10_town_X10_advances
set_option maxRecDepth 20000 in
theorem ggX10_town_X10_isWell : GoodIn wsX10_town wsX10_isWell := goodIn_r _ [48, 2, 69, 70, 71, 72, 73, 74, 75, 76, 77, 78, 79, 80, 81, 82, 83, 84, 85, 86, 87, 88, 89, 90, 91, 92, 93, 94, 95, 96, 97, 98, 99] (by decide +kernel) (by decide +kernel)
set_option maxRecDepth 20000 in
theorem gX10_town_X10_isWell : GoodIn wsX10_town (wsV RX10 96 RX10 yX10_isWell wsX10_isWell) := goodIn_app (goodIn_of _ (by decide +kernel)) ggX10_town_X10_isWell
set_option maxRecDepth 20000 in
theorem ggX10_town_X10_takes : GoodIn wsX10_town wsX10_takes := goodIn_r _ [52, 26, 2, 9, 45, 46, 47, 24, 48, 21, 22, 23, 25, 3, 8, 27, 28, 29, 30, 19, 31, 32, 33, 34, 35, 36, 37, 38, 39, 40, 41, 42, 43, 44, 69, 70, 71, 72, 73, 74, 75, 76, 77, 78, 79, 80, 81, 82, 83, 84, 85, 86, 87, 88, 89, 90, 91, 92, 93, 94, 95, 96, 97, 98, 99] (by decide +kernel) (by decide +kernel)
set_option maxRecDepth 20000 in
theorem gX10_town_X10_takes : GoodIn wsX10_town (wsV RX10 103 RX10 yX10_takes wsX10_takes) := goodIn_app (goodIn_of _ (by decide +kernel)) ggX10_town_X10_takes
set_option maxRecDepth 20000 in
theorem ggX10_town_X10_readsItem : GoodIn wsX10_town wsX10_readsItem := goodIn_r _ [56, 12, 4, 13, 8, 9, 14, 5, 15, 16, 18, 6, 7, 57, 58, 59, 24, 60, 32, 33, 34, 49, 50, 51, 52, 26, 2, 45, 46, 47, 48, 21, 22, 23, 25, 3, 27, 28, 29, 30, 19, 31, 35, 36, 37, 38, 39, 40, 41, 42, 43, 44, 61, 62, 63, 64, 65, 66, 67, 68, 69, 70, 71, 72, 73, 74, 75, 76, 77, 78, 79, 80, 81, 82, 83, 84, 85, 86, 87, 88, 89, 90, 91, 92, 93, 94, 95, 96, 97, 98, 99] (by decide +kernel) (by decide +kernel)
set_option maxRecDepth 20000 in
theorem gX10_town_X10_readsItem : GoodIn wsX10_town (wsV RX10 132 RX10 yX10_readsItem wsX10_readsItem) := goodIn_app (goodIn_of _ (by decide +kernel)) ggX10_town_X10_readsItem
theorem dX10_town_0 : decode cX10_town 0 = .ok (.aload_n 0, 1) := by decide +kernel
theorem dX10_town_1 : decode cX10_town 1 = .ok (.iconst 0, 1) := by decide +kernel
theorem dX10_town_2 : decode cX10_town 2 = .ok (.putfield 50, 3) := by decide +kernel
theorem dX10_town_5 : decode cX10_town 5 = .ok (.aload_n 0, 1) := by decide +kernel
theorem dX10_town_6 : decode cX10_town 6 = .ok (.iconst (-1), 1) := by decide +kernel
theorem dX10_town_7 : decode cX10_town 7 = .ok (.putfield 93, 3) := by decide +kernel
theorem dX10_town_10 : decode cX10_town 10 = .ok (.aload_n 0, 1) := by decide +kernel
theorem dX10_town_11 : decode cX10_town 11 = .ok (.iconst 0, 1) := by decide +kernel
theorem dX10_town_12 : decode cX10_town 12 = .ok (.putfield 73, 3) := by decide +kernel
theorem dX10_town_15 : decode cX10_town 15 = .ok (.iconst 0, 1) := by decide +kernel
theorem dX10_town_16 : decode cX10_town 16 = .ok (.istore_n 1, 1) := by decide +kernel
theorem dX10_town_17 : decode cX10_town 17 = .ok (.aload_n 0, 1) := by decide +kernel
theorem dX10_town_18 : decode cX10_town 18 = .ok (.iconst 0, 1) := by decide +kernel
theorem dX10_town_19 : decode cX10_town 19 = .ok (.putfield 110, 3) := by decide +kernel
theorem dX10_town_22 : decode cX10_town 22 = .ok (.aload_n 0, 1) := by decide +kernel
theorem dX10_town_23 : decode cX10_town 23 = .ok (.iconst 0, 1) := by decide +kernel
theorem dX10_town_24 : decode cX10_town 24 = .ok (.putfield 107, 3) := by decide +kernel
theorem dX10_town_27 : decode cX10_town 27 = .ok (.aload_n 0, 1) := by decide +kernel
theorem dX10_town_28 : decode cX10_town 28 = .ok (.iconst 0, 1) := by decide +kernel
theorem dX10_town_29 : decode cX10_town 29 = .ok (.putfield 121, 3) := by decide +kernel
theorem dX10_town_32 : decode cX10_town 32 = .ok (.aload_n 0, 1) := by decide +kernel
theorem dX10_town_33 : decode cX10_town 33 = .ok (.iconst 0, 1) := by decide +kernel
theorem dX10_town_34 : decode cX10_town 34 = .ok (.putfield 124, 3) := by decide +kernel
theorem dX10_town_37 : decode cX10_town 37 = .ok (.aload_n 0, 1) := by decide +kernel
theorem dX10_town_38 : decode cX10_town 38 = .ok (.invokevirtual 100, 3) := by decide +kernel
theorem dX10_town_41 : decode cX10_town 41 = .ok (.aload_n 0, 1) := by decide +kernel
theorem dX10_town_42 : decode cX10_town 42 = .ok (.invokevirtual 96, 3) := by decide +kernel
theorem dX10_town_45 : decode cX10_town 45 = .ok (.ifCond .eq 153, 3) := by decide +kernel
theorem dX10_town_48 : decode cX10_town 48 = .ok (.aload_n 0, 1) := by decide +kernel
theorem dX10_town_49 : decode cX10_town 49 = .ok (.getfield 83, 3) := by decide +kernel
theorem dX10_town_52 : decode cX10_town 52 = .ok (.ifCond .eq 146, 3) := by decide +kernel
theorem dX10_town_55 : decode cX10_town 55 = .ok (.aload_n 0, 1) := by decide +kernel
theorem dX10_town_56 : decode cX10_town 56 = .ok (.getfield 90, 3) := by decide +kernel
theorem dX10_town_59 : decode cX10_town 59 = .ok (.ifCond .ne 19, 3) := by decide +kernel
theorem dX10_town_62 : decode cX10_town 62 = .ok (.aload_n 0, 1) := by decide +kernel
theorem dX10_town_63 : decode cX10_town 63 = .ok (.getfield 110, 3) := by decide +kernel
theorem dX10_town_66 : decode cX10_town 66 = .ok (.iconst 4, 1) := by decide +kernel
theorem dX10_town_67 : decode cX10_town 67 = .ok (.if_icmp .ge 7, 3) := by decide +kernel
theorem dX10_town_70 : decode cX10_town 70 = .ok (.iconst 1, 1) := by decide +kernel
theorem dX10_town_71 : decode cX10_town 71 = .ok (.goto 68, 3) := by decide +kernel
theorem dX10_town_74 : decode cX10_town 74 = .ok (.iconst 0, 1) := by decide +kernel
theorem dX10_town_75 : decode cX10_town 75 = .ok (.goto 64, 3) := by decide +kernel
theorem dX10_town_78 : decode cX10_town 78 = .ok (.aload_n 0, 1) := by decide +kernel
theorem dX10_town_79 : decode cX10_town 79 = .ok (.getfield 90, 3) := by decide +kernel
theorem dX10_town_82 : decode cX10_town 82 = .ok (.iconst 1, 1) := by decide +kernel
theorem dX10_town_83 : decode cX10_town 83 = .ok (.if_icmp .ne 20, 3) := by decide +kernel
theorem dX10_town_86 : decode cX10_town 86 = .ok (.aload_n 0, 1) := by decide +kernel
theorem dX10_town_87 : decode cX10_town 87 = .ok (.getfield 107, 3) := by decide +kernel
theorem dX10_town_90 : decode cX10_town 90 = .ok (.bipush 8, 2) := by decide +kernel
theorem dX10_town_92 : decode cX10_town 92 = .ok (.if_icmp .ge 7, 3) := by decide +kernel
theorem dX10_town_95 : decode cX10_town 95 = .ok (.iconst 1, 1) := by decide +kernel
theorem dX10_town_96 : decode cX10_town 96 = .ok (.goto 43, 3) := by decide +kernel
theorem dX10_town_99 : decode cX10_town 99 = .ok (.iconst 0, 1) := by decide +kernel
theorem dX10_town_100 : decode cX10_town 100 = .ok (.goto 39, 3) := by decide +kernel
theorem dX10_town_103 : decode cX10_town 103 = .ok (.aload_n 0, 1) := by decide +kernel
theorem dX10_town_104 : decode cX10_town 104 = .ok (.getfield 90, 3) := by decide +kernel
theorem dX10_town_107 : decode cX10_town 107 = .ok (.iconst 4, 1) := by decide +kernel
theorem dX10_town_108 : decode cX10_town 108 = .ok (.if_icmp .ne 18, 3) := by decide +kernel
theorem dX10_town_111 : decode cX10_town 111 = .ok (.aload_n 0, 1) := by decide +kernel
theorem dX10_town_112 : decode cX10_town 112 = .ok (.getfield 124, 3) := by decide +kernel
theorem dX10_town_115 : decode cX10_town 115 = .ok (.ifCond .ne 7, 3) := by decide +kernel
theorem dX10_town_118 : decode cX10_town 118 = .ok (.iconst 1, 1) := by decide +kernel
theorem dX10_town_119 : decode cX10_town 119 = .ok (.goto 20, 3) := by decide +kernel
theorem dX10_town_122 : decode cX10_town 122 = .ok (.iconst 0, 1) := by decide +kernel
theorem dX10_town_123 : decode cX10_town 123 = .ok (.goto 16, 3) := by decide +kernel
theorem dX10_town_126 : decode cX10_town 126 = .ok (.aload_n 0, 1) := by decide +kernel
theorem dX10_town_127 : decode cX10_town 127 = .ok (.getfield 90, 3) := by decide +kernel
theorem dX10_town_130 : decode cX10_town 130 = .ok (.iconst 4, 1) := by decide +kernel
theorem dX10_town_131 : decode cX10_town 131 = .ok (.if_icmp .ge 7, 3) := by decide +kernel
theorem dX10_town_134 : decode cX10_town 134 = .ok (.iconst 1, 1) := by decide +kernel
theorem dX10_town_135 : decode cX10_town 135 = .ok (.goto 4, 3) := by decide +kernel
theorem dX10_town_138 : decode cX10_town 138 = .ok (.iconst 0, 1) := by decide +kernel
theorem dX10_town_139 : decode cX10_town 139 = .ok (.istore_n 2, 1) := by decide +kernel
theorem dX10_town_140 : decode cX10_town 140 = .ok (.aload_n 0, 1) := by decide +kernel
theorem dX10_town_141 : decode cX10_town 141 = .ok (.aload_n 0, 1) := by decide +kernel
theorem dX10_town_142 : decode cX10_town 142 = .ok (.getfield 83, 3) := by decide +kernel
theorem dX10_town_145 : decode cX10_town 145 = .ok (.iconst 1, 1) := by decide +kernel
theorem dX10_town_146 : decode cX10_town 146 = .ok (.if_icmp .ne 11, 3) := by decide +kernel
theorem dX10_town_149 : decode cX10_town 149 = .ok (.iload_n 2, 1) := by decide +kernel
theorem dX10_town_150 : decode cX10_town 150 = .ok (.ifCond .eq 7, 3) := by decide +kernel
theorem dX10_town_153 : decode cX10_town 153 = .ok (.iconst 1, 1) := by decide +kernel
theorem dX10_town_154 : decode cX10_town 154 = .ok (.goto 4, 3) := by decide +kernel
theorem dX10_town_157 : decode cX10_town 157 = .ok (.iconst 0, 1) := by decide +kernel
theorem dX10_town_158 : decode cX10_town 158 = .ok (.invokevirtual 103, 3) := by decide +kernel
theorem dX10_town_161 : decode cX10_town 161 = .ok (.istore_n 3, 1) := by decide +kernel
theorem dX10_town_162 : decode cX10_town 162 = .ok (.aload_n 0, 1) := by decide +kernel
theorem dX10_town_163 : decode cX10_town 163 = .ok (.invokevirtual 96, 3) := by decide +kernel
theorem dX10_town_166 : decode cX10_town 166 = .ok (.ifCond .eq 8, 3) := by decide +kernel
theorem dX10_town_169 : decode cX10_town 169 = .ok (.aload_n 0, 1) := by decide +kernel
theorem dX10_town_170 : decode cX10_town 170 = .ok (.iload_n 3, 1) := by decide +kernel
theorem dX10_town_171 : decode cX10_town 171 = .ok (.invokevirtual 132, 3) := by decide +kernel
theorem dX10_town_174 : decode cX10_town 174 = .ok (.aload_n 0, 1) := by decide +kernel
theorem dX10_town_175 : decode cX10_town 175 = .ok (.aload_n 0, 1) := by decide +kernel
theorem dX10_town_176 : decode cX10_town 176 = .ok (.getfield 83, 3) := by decide +kernel
theorem dX10_town_179 : decode cX10_town 179 = .ok (.iconst 3, 1) := by decide +kernel
theorem dX10_town_180 : decode cX10_town 180 = .ok (.if_icmp .ne 7, 3) := by decide +kernel
theorem dX10_town_183 : decode cX10_town 183 = .ok (.iconst 1, 1) := by decide +kernel
theorem dX10_town_184 : decode cX10_town 184 = .ok (.goto 4, 3) := by decide +kernel
theorem dX10_town_187 : decode cX10_town 187 = .ok (.iconst 0, 1) := by decide +kernel
theorem dX10_town_188 : decode cX10_town 188 = .ok (.invokevirtual 103, 3) := by decide +kernel
theorem dX10_town_191 : decode cX10_town 191 = .ok (.pop, 1) := by decide +kernel
theorem dX10_town_192 : decode cX10_town 192 = .ok (.iinc 1 1, 3) := by decide +kernel
theorem dX10_town_195 : decode cX10_town 195 = .ok (.goto (-154), 3) := by decide +kernel
theorem dX10_town_198 : decode cX10_town 198 = .ok (.aload_n 0, 1) := by decide +kernel
theorem dX10_town_199 : decode cX10_town 199 = .ok (.invokevirtual 96, 3) := by decide +kernel
theorem dX10_town_202 : decode cX10_town 202 = .ok (.ifCond .ne 11, 3) := by decide +kernel
theorem dX10_town_205 : decode cX10_town 205 = .ok (.bipush (-10), 2) := by decide +kernel
theorem dX10_town_207 : decode cX10_town 207 = .ok (.aload_n 0, 1) := by decide +kernel
theorem dX10_town_208 : decode cX10_town 208 = .ok (.getfield 93, 3) := by decide +kernel
theorem dX10_town_211 : decode cX10_town 211 = .ok (.isub, 1) := by decide +kernel
theorem dX10_town_212 : decode cX10_town 212 = .ok (.ireturn, 1) := by decide +kernel
theorem dX10_town_213 : decode cX10_town 213 = .ok (.aload_n 0, 1) := by decide +kernel
theorem dX10_town_214 : decode cX10_town 214 = .ok (.aload_n 0, 1) := by decide +kernel
theorem dX10_town_215 : decode cX10_town 215 = .ok (.getfield 110, 3) := by decide +kernel
theorem dX10_town_218 : decode cX10_town 218 = .ok (.putfield 135, 3) := by decide +kernel
theorem dX10_town_221 : decode cX10_town 221 = .ok (.aload_n 0, 1) := by decide +kernel
theorem dX10_town_222 : decode cX10_town 222 = .ok (.aload_n 0, 1) := by decide +kernel
theorem dX10_town_223 : decode cX10_town 223 = .ok (.getfield 107, 3) := by decide +kernel
theorem dX10_town_226 : decode cX10_town 226 = .ok (.putfield 138, 3) := by decide +kernel
theorem dX10_town_229 : decode cX10_town 229 = .ok (.iconst 0, 1) := by decide +kernel
theorem dX10_town_230 : decode cX10_town 230 = .ok (.istore_n 2, 1) := by decide +kernel
theorem dX10_town_231 : decode cX10_town 231 = .ok (.iload_n 2, 1) := by decide +kernel
theorem dX10_town_232 : decode cX10_town 232 = .ok (.iconst 4, 1) := by decide +kernel
theorem dX10_town_233 : decode cX10_town 233 = .ok (.if_icmp .ge 37, 3) := by decide +kernel
theorem dX10_town_236 : decode cX10_town 236 = .ok (.aload_n 0, 1) := by decide +kernel
theorem dX10_town_237 : decode cX10_town 237 = .ok (.getfield 13, 3) := by decide +kernel
theorem dX10_town_240 : decode cX10_town 240 = .ok (.iload_n 2, 1) := by decide +kernel
theorem dX10_town_241 : decode cX10_town 241 = .ok (.aload_n 0, 1) := by decide +kernel
theorem dX10_town_242 : decode cX10_town 242 = .ok (.getfield 13, 3) := by decide +kernel
theorem dX10_town_245 : decode cX10_town 245 = .ok (.iconst 4, 1) := by decide +kernel
theorem dX10_town_246 : decode cX10_town 246 = .ok (.iload_n 2, 1) := by decide +kernel
theorem dX10_town_247 : decode cX10_town 247 = .ok (.iadd, 1) := by decide +kernel
theorem dX10_town_248 : decode cX10_town 248 = .ok (.iaload, 1) := by decide +kernel
theorem dX10_town_249 : decode cX10_town 249 = .ok (.iastore, 1) := by decide +kernel
theorem dX10_town_250 : decode cX10_town 250 = .ok (.aload_n 0, 1) := by decide +kernel
theorem dX10_town_251 : decode cX10_town 251 = .ok (.getfield 16, 3) := by decide +kernel
theorem dX10_town_254 : decode cX10_town 254 = .ok (.iload_n 2, 1) := by decide +kernel
theorem dX10_town_255 : decode cX10_town 255 = .ok (.aload_n 0, 1) := by decide +kernel
theorem dX10_town_256 : decode cX10_town 256 = .ok (.getfield 16, 3) := by decide +kernel
theorem dX10_town_259 : decode cX10_town 259 = .ok (.iconst 4, 1) := by decide +kernel
theorem dX10_town_260 : decode cX10_town 260 = .ok (.iload_n 2, 1) := by decide +kernel
theorem dX10_town_261 : decode cX10_town 261 = .ok (.iadd, 1) := by decide +kernel
theorem dX10_town_262 : decode cX10_town 262 = .ok (.iaload, 1) := by decide +kernel
theorem dX10_town_263 : decode cX10_town 263 = .ok (.iastore, 1) := by decide +kernel
theorem dX10_town_264 : decode cX10_town 264 = .ok (.iinc 2 1, 3) := by decide +kernel
theorem dX10_town_267 : decode cX10_town 267 = .ok (.goto (-36), 3) := by decide +kernel
theorem dX10_town_270 : decode cX10_town 270 = .ok (.iconst 0, 1) := by decide +kernel
theorem dX10_town_271 : decode cX10_town 271 = .ok (.istore_n 2, 1) := by decide +kernel
theorem dX10_town_272 : decode cX10_town 272 = .ok (.iload_n 2, 1) := by decide +kernel
theorem dX10_town_273 : decode cX10_town 273 = .ok (.bipush 8, 2) := by decide +kernel
theorem dX10_town_275 : decode cX10_town 275 = .ok (.if_icmp .ge 79, 3) := by decide +kernel
theorem dX10_town_278 : decode cX10_town 278 = .ok (.aload_n 0, 1) := by decide +kernel
theorem dX10_town_279 : decode cX10_town 279 = .ok (.getfield 19, 3) := by decide +kernel
theorem dX10_town_282 : decode cX10_town 282 = .ok (.iload_n 2, 1) := by decide +kernel
theorem dX10_town_283 : decode cX10_town 283 = .ok (.aload_n 0, 1) := by decide +kernel
theorem dX10_town_284 : decode cX10_town 284 = .ok (.getfield 19, 3) := by decide +kernel
theorem dX10_town_287 : decode cX10_town 287 = .ok (.bipush 8, 2) := by decide +kernel
theorem dX10_town_289 : decode cX10_town 289 = .ok (.iload_n 2, 1) := by decide +kernel
theorem dX10_town_290 : decode cX10_town 290 = .ok (.iadd, 1) := by decide +kernel
theorem dX10_town_291 : decode cX10_town 291 = .ok (.iaload, 1) := by decide +kernel
theorem dX10_town_292 : decode cX10_town 292 = .ok (.iastore, 1) := by decide +kernel
theorem dX10_town_293 : decode cX10_town 293 = .ok (.aload_n 0, 1) := by decide +kernel
theorem dX10_town_294 : decode cX10_town 294 = .ok (.getfield 22, 3) := by decide +kernel
theorem dX10_town_297 : decode cX10_town 297 = .ok (.iload_n 2, 1) := by decide +kernel
theorem dX10_town_298 : decode cX10_town 298 = .ok (.aload_n 0, 1) := by decide +kernel
theorem dX10_town_299 : decode cX10_town 299 = .ok (.getfield 22, 3) := by decide +kernel
theorem dX10_town_302 : decode cX10_town 302 = .ok (.bipush 8, 2) := by decide +kernel
theorem dX10_town_304 : decode cX10_town 304 = .ok (.iload_n 2, 1) := by decide +kernel
theorem dX10_town_305 : decode cX10_town 305 = .ok (.iadd, 1) := by decide +kernel
theorem dX10_town_306 : decode cX10_town 306 = .ok (.iaload, 1) := by decide +kernel
theorem dX10_town_307 : decode cX10_town 307 = .ok (.iastore, 1) := by decide +kernel
theorem dX10_town_308 : decode cX10_town 308 = .ok (.aload_n 0, 1) := by decide +kernel
theorem dX10_town_309 : decode cX10_town 309 = .ok (.getfield 25, 3) := by decide +kernel
theorem dX10_town_312 : decode cX10_town 312 = .ok (.iload_n 2, 1) := by decide +kernel
theorem dX10_town_313 : decode cX10_town 313 = .ok (.aload_n 0, 1) := by decide +kernel
theorem dX10_town_314 : decode cX10_town 314 = .ok (.getfield 25, 3) := by decide +kernel
theorem dX10_town_317 : decode cX10_town 317 = .ok (.bipush 8, 2) := by decide +kernel
theorem dX10_town_319 : decode cX10_town 319 = .ok (.iload_n 2, 1) := by decide +kernel
theorem dX10_town_320 : decode cX10_town 320 = .ok (.iadd, 1) := by decide +kernel
theorem dX10_town_321 : decode cX10_town 321 = .ok (.iaload, 1) := by decide +kernel
theorem dX10_town_322 : decode cX10_town 322 = .ok (.iastore, 1) := by decide +kernel
theorem dX10_town_323 : decode cX10_town 323 = .ok (.aload_n 0, 1) := by decide +kernel
theorem dX10_town_324 : decode cX10_town 324 = .ok (.getfield 31, 3) := by decide +kernel
theorem dX10_town_327 : decode cX10_town 327 = .ok (.iload_n 2, 1) := by decide +kernel
theorem dX10_town_328 : decode cX10_town 328 = .ok (.iload_n 2, 1) := by decide +kernel
theorem dX10_town_329 : decode cX10_town 329 = .ok (.aload_n 0, 1) := by decide +kernel
theorem dX10_town_330 : decode cX10_town 330 = .ok (.getfield 138, 3) := by decide +kernel
theorem dX10_town_333 : decode cX10_town 333 = .ok (.if_icmp .ge 12, 3) := by decide +kernel
theorem dX10_town_336 : decode cX10_town 336 = .ok (.aload_n 0, 1) := by decide +kernel
theorem dX10_town_337 : decode cX10_town 337 = .ok (.getfield 28, 3) := by decide +kernel
theorem dX10_town_340 : decode cX10_town 340 = .ok (.iload_n 2, 1) := by decide +kernel
theorem dX10_town_341 : decode cX10_town 341 = .ok (.iaload, 1) := by decide +kernel
theorem dX10_town_342 : decode cX10_town 342 = .ok (.goto 5, 3) := by decide +kernel
theorem dX10_town_345 : decode cX10_town 345 = .ok (.bipush (-9), 2) := by decide +kernel
theorem dX10_town_347 : decode cX10_town 347 = .ok (.iastore, 1) := by decide +kernel
theorem dX10_town_348 : decode cX10_town 348 = .ok (.iinc 2 1, 3) := by decide +kernel
theorem dX10_town_351 : decode cX10_town 351 = .ok (.goto (-79), 3) := by decide +kernel
theorem dX10_town_354 : decode cX10_town 354 = .ok (.aload_n 0, 1) := by decide +kernel
theorem dX10_town_355 : decode cX10_town 355 = .ok (.getfield 31, 3) := by decide +kernel
theorem dX10_town_358 : decode cX10_town 358 = .ok (.bipush 8, 2) := by decide +kernel
theorem dX10_town_360 : decode cX10_town 360 = .ok (.aload_n 0, 1) := by decide +kernel
theorem dX10_town_361 : decode cX10_town 361 = .ok (.getfield 121, 3) := by decide +kernel
theorem dX10_town_364 : decode cX10_town 364 = .ok (.iastore, 1) := by decide +kernel
theorem dX10_town_365 : decode cX10_town 365 = .ok (.aload_n 0, 1) := by decide +kernel
theorem dX10_town_366 : decode cX10_town 366 = .ok (.getfield 31, 3) := by decide +kernel
theorem dX10_town_369 : decode cX10_town 369 = .ok (.bipush 10, 2) := by decide +kernel
theorem dX10_town_371 : decode cX10_town 371 = .ok (.iconst 0, 1) := by decide +kernel
theorem dX10_town_372 : decode cX10_town 372 = .ok (.iastore, 1) := by decide +kernel
theorem dX10_town_373 : decode cX10_town 373 = .ok (.aload_n 0, 1) := by decide +kernel
theorem dX10_town_374 : decode cX10_town 374 = .ok (.iconst 0, 1) := by decide +kernel
theorem dX10_town_375 : decode cX10_town 375 = .ok (.putfield 58, 3) := by decide +kernel
theorem dX10_town_378 : decode cX10_town 378 = .ok (.aload_n 0, 1) := by decide +kernel
theorem dX10_town_379 : decode cX10_town 379 = .ok (.getfield 37, 3) := by decide +kernel
theorem dX10_town_382 : decode cX10_town 382 = .ok (.iconst 0, 1) := by decide +kernel
theorem dX10_town_383 : decode cX10_town 383 = .ok (.iconst 0, 1) := by decide +kernel
theorem dX10_town_384 : decode cX10_town 384 = .ok (.bastore, 1) := by decide +kernel
theorem dX10_town_385 : decode cX10_town 385 = .ok (.aload_n 0, 1) := by decide +kernel
theorem dX10_town_386 : decode cX10_town 386 = .ok (.getfield 37, 3) := by decide +kernel
theorem dX10_town_389 : decode cX10_town 389 = .ok (.iconst 1, 1) := by decide +kernel
theorem dX10_town_390 : decode cX10_town 390 = .ok (.iconst 0, 1) := by decide +kernel
theorem dX10_town_391 : decode cX10_town 391 = .ok (.bastore, 1) := by decide +kernel
theorem dX10_town_392 : decode cX10_town 392 = .ok (.iload_n 1, 1) := by decide +kernel
theorem dX10_town_393 : decode cX10_town 393 = .ok (.ireturn, 1) := by decide +kernel
