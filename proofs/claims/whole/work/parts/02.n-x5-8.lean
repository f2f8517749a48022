theorem dX5_init_0 : decode cX5_init 0 = .ok (.aload_n 0, 1) := by decide +kernel
theorem dX5_init_1 : decode cX5_init 1 = .ok (.invokespecial 3, 3) := by decide +kernel
theorem dX5_init_4 : decode cX5_init 4 = .ok (.aload_n 0, 1) := by decide +kernel
theorem dX5_init_5 : decode cX5_init 5 = .ok (.bipush 8, 2) := by decide +kernel
theorem dX5_init_7 : decode cX5_init 7 = .ok (.newarray .int, 2) := by decide +kernel
theorem dX5_init_9 : decode cX5_init 9 = .ok (.putfield 9, 3) := by decide +kernel
theorem dX5_init_12 : decode cX5_init 12 = .ok (.aload_n 0, 1) := by decide +kernel
theorem dX5_init_13 : decode cX5_init 13 = .ok (.bipush 8, 2) := by decide +kernel
theorem dX5_init_15 : decode cX5_init 15 = .ok (.newarray .int, 2) := by decide +kernel
theorem dX5_init_17 : decode cX5_init 17 = .ok (.putfield 15, 3) := by decide +kernel
theorem dX5_init_20 : decode cX5_init 20 = .ok (.return_, 1) := by decide +kernel
theorem dX5_add_0 : decode cX5_add 0 = .ok (.aload_n 0, 1) := by decide +kernel
theorem dX5_add_1 : decode cX5_add 1 = .ok (.getfield 18, 3) := by decide +kernel
theorem dX5_add_4 : decode cX5_add 4 = .ok (.bipush 8, 2) := by decide +kernel
theorem dX5_add_6 : decode cX5_add 6 = .ok (.if_icmp .lt 5, 3) := by decide +kernel
theorem dX5_add_9 : decode cX5_add 9 = .ok (.iconst 0, 1) := by decide +kernel
theorem dX5_add_10 : decode cX5_add 10 = .ok (.ireturn, 1) := by decide +kernel
theorem dX5_add_11 : decode cX5_add 11 = .ok (.aload_n 0, 1) := by decide +kernel
theorem dX5_add_12 : decode cX5_add 12 = .ok (.getfield 9, 3) := by decide +kernel
theorem dX5_add_15 : decode cX5_add 15 = .ok (.aload_n 0, 1) := by decide +kernel
theorem dX5_add_16 : decode cX5_add 16 = .ok (.getfield 18, 3) := by decide +kernel
theorem dX5_add_19 : decode cX5_add 19 = .ok (.iload_n 1, 1) := by decide +kernel
theorem dX5_add_20 : decode cX5_add 20 = .ok (.iastore, 1) := by decide +kernel
theorem dX5_add_21 : decode cX5_add 21 = .ok (.aload_n 0, 1) := by decide +kernel
theorem dX5_add_22 : decode cX5_add 22 = .ok (.getfield 15, 3) := by decide +kernel
theorem dX5_add_25 : decode cX5_add 25 = .ok (.aload_n 0, 1) := by decide +kernel
theorem dX5_add_26 : decode cX5_add 26 = .ok (.getfield 18, 3) := by decide +kernel
theorem dX5_add_29 : decode cX5_add 29 = .ok (.iload_n 2, 1) := by decide +kernel
theorem dX5_add_30 : decode cX5_add 30 = .ok (.iastore, 1) := by decide +kernel
theorem dX5_add_31 : decode cX5_add 31 = .ok (.aload_n 0, 1) := by decide +kernel
theorem dX5_add_32 : decode cX5_add 32 = .ok (.dup, 1) := by decide +kernel
theorem dX5_add_33 : decode cX5_add 33 = .ok (.getfield 18, 3) := by decide +kernel
theorem dX5_add_36 : decode cX5_add 36 = .ok (.iconst 1, 1) := by decide +kernel
theorem dX5_add_37 : decode cX5_add 37 = .ok (.iadd, 1) := by decide +kernel
theorem dX5_add_38 : decode cX5_add 38 = .ok (.putfield 18, 3) := by decide +kernel
theorem dX5_add_41 : decode cX5_add 41 = .ok (.iconst 1, 1) := by decide +kernel
theorem dX5_add_42 : decode cX5_add 42 = .ok (.ireturn, 1) := by decide +kernel
theorem dX5_empty_0 : decode cX5_empty 0 = .ok (.aload_n 0, 1) := by decide +kernel
theorem dX5_empty_1 : decode cX5_empty 1 = .ok (.getfield 18, 3) := by decide +kernel
theorem dX5_empty_4 : decode cX5_empty 4 = .ok (.istore_n 1, 1) := by decide +kernel
theorem dX5_empty_5 : decode cX5_empty 5 = .ok (.aload_n 0, 1) := by decide +kernel
theorem dX5_empty_6 : decode cX5_empty 6 = .ok (.iconst 0, 1) := by decide +kernel
theorem dX5_empty_7 : decode cX5_empty 7 = .ok (.putfield 18, 3) := by decide +kernel
theorem dX5_empty_10 : decode cX5_empty 10 = .ok (.iload_n 1, 1) := by decide +kernel
theorem dX5_empty_11 : decode cX5_empty 11 = .ok (.ireturn, 1) := by decide +kernel
theorem dX5_copyOf_0 : decode cX5_copyOf 0 = .ok (.aload_n 0, 1) := by decide +kernel
theorem dX5_copyOf_1 : decode cX5_copyOf 1 = .ok (.aload_n 1, 1) := by decide +kernel
theorem dX5_copyOf_2 : decode cX5_copyOf 2 = .ok (.getfield 18, 3) := by decide +kernel
theorem dX5_copyOf_5 : decode cX5_copyOf 5 = .ok (.putfield 18, 3) := by decide +kernel
theorem dX5_copyOf_8 : decode cX5_copyOf 8 = .ok (.aload_n 1, 1) := by decide +kernel
theorem dX5_copyOf_9 : decode cX5_copyOf 9 = .ok (.getfield 9, 3) := by decide +kernel
theorem dX5_copyOf_12 : decode cX5_copyOf 12 = .ok (.iconst 0, 1) := by decide +kernel
theorem dX5_copyOf_13 : decode cX5_copyOf 13 = .ok (.aload_n 0, 1) := by decide +kernel
theorem dX5_copyOf_14 : decode cX5_copyOf 14 = .ok (.getfield 9, 3) := by decide +kernel
theorem dX5_copyOf_17 : decode cX5_copyOf 17 = .ok (.iconst 0, 1) := by decide +kernel
theorem dX5_copyOf_18 : decode cX5_copyOf 18 = .ok (.bipush 8, 2) := by decide +kernel
theorem dX5_copyOf_20 : decode cX5_copyOf 20 = .ok (.invokestatic 22, 3) := by decide +kernel
theorem dX5_copyOf_23 : decode cX5_copyOf 23 = .ok (.aload_n 1, 1) := by decide +kernel
theorem dX5_copyOf_24 : decode cX5_copyOf 24 = .ok (.getfield 15, 3) := by decide +kernel
theorem dX5_copyOf_27 : decode cX5_copyOf 27 = .ok (.iconst 0, 1) := by decide +kernel
theorem dX5_copyOf_28 : decode cX5_copyOf 28 = .ok (.aload_n 0, 1) := by decide +kernel
theorem dX5_copyOf_29 : decode cX5_copyOf 29 = .ok (.getfield 15, 3) := by decide +kernel
theorem dX5_copyOf_32 : decode cX5_copyOf 32 = .ok (.iconst 0, 1) := by decide +kernel
theorem dX5_copyOf_33 : decode cX5_copyOf 33 = .ok (.bipush 8, 2) := by decide +kernel
theorem dX5_copyOf_35 : decode cX5_copyOf 35 = .ok (.invokestatic 22, 3) := by decide +kernel
theorem dX5_copyOf_38 : decode cX5_copyOf 38 = .ok (.return_, 1) := by decide +kernel
theorem dX5_fits_0 : decode cX5_fits 0 = .ok (.iconst 0, 1) := by decide +kernel
theorem dX5_fits_1 : decode cX5_fits 1 = .ok (.istore_n 2, 1) := by decide +kernel
theorem dX5_fits_2 : decode cX5_fits 2 = .ok (.iload_n 2, 1) := by decide +kernel
theorem dX5_fits_3 : decode cX5_fits 3 = .ok (.aload_n 0, 1) := by decide +kernel
theorem dX5_fits_4 : decode cX5_fits 4 = .ok (.getfield 18, 3) := by decide +kernel
theorem dX5_fits_7 : decode cX5_fits 7 = .ok (.if_icmp .ge 43, 3) := by decide +kernel
theorem dX5_fits_10 : decode cX5_fits 10 = .ok (.aload_n 0, 1) := by decide +kernel
theorem dX5_fits_11 : decode cX5_fits 11 = .ok (.getfield 9, 3) := by decide +kernel
theorem dX5_fits_14 : decode cX5_fits 14 = .ok (.iload_n 2, 1) := by decide +kernel
theorem dX5_fits_15 : decode cX5_fits 15 = .ok (.iaload, 1) := by decide +kernel
theorem dX5_fits_16 : decode cX5_fits 16 = .ok (.istore_n 3, 1) := by decide +kernel
theorem dX5_fits_17 : decode cX5_fits 17 = .ok (.iload_n 3, 1) := by decide +kernel
theorem dX5_fits_18 : decode cX5_fits 18 = .ok (.ifCond .lt 24, 3) := by decide +kernel
theorem dX5_fits_21 : decode cX5_fits 21 = .ok (.iload_n 3, 1) := by decide +kernel
theorem dX5_fits_22 : decode cX5_fits 22 = .ok (.bipush 8, 2) := by decide +kernel
theorem dX5_fits_24 : decode cX5_fits 24 = .ok (.if_icmp .ge 18, 3) := by decide +kernel
theorem dX5_fits_27 : decode cX5_fits 27 = .ok (.aload_n 1, 1) := by decide +kernel
theorem dX5_fits_28 : decode cX5_fits 28 = .ok (.getfield 28, 3) := by decide +kernel
theorem dX5_fits_31 : decode cX5_fits 31 = .ok (.iload_n 3, 1) := by decide +kernel
theorem dX5_fits_32 : decode cX5_fits 32 = .ok (.iaload, 1) := by decide +kernel
theorem dX5_fits_33 : decode cX5_fits 33 = .ok (.aload_n 0, 1) := by decide +kernel
theorem dX5_fits_34 : decode cX5_fits 34 = .ok (.getfield 15, 3) := by decide +kernel
theorem dX5_fits_37 : decode cX5_fits 37 = .ok (.iload_n 2, 1) := by decide +kernel
theorem dX5_fits_38 : decode cX5_fits 38 = .ok (.iaload, 1) := by decide +kernel
theorem dX5_fits_39 : decode cX5_fits 39 = .ok (.if_icmp .eq 5, 3) := by decide +kernel
theorem dX5_fits_42 : decode cX5_fits 42 = .ok (.iconst 0, 1) := by decide +kernel
theorem dX5_fits_43 : decode cX5_fits 43 = .ok (.ireturn, 1) := by decide +kernel
theorem dX5_fits_44 : decode cX5_fits 44 = .ok (.iinc 2 1, 3) := by decide +kernel
theorem dX5_fits_47 : decode cX5_fits 47 = .ok (.goto (-45), 3) := by decide +kernel
theorem dX5_fits_50 : decode cX5_fits 50 = .ok (.iconst 1, 1) := by decide +kernel
theorem dX5_fits_51 : decode cX5_fits 51 = .ok (.ireturn, 1) := by decide +kernel
theorem dX6_init_0 : decode cX6_init 0 = .ok (.aload_n 0, 1) := by decide +kernel
theorem dX6_init_1 : decode cX6_init 1 = .ok (.invokespecial 3, 3) := by decide +kernel
theorem dX6_init_4 : decode cX6_init 4 = .ok (.aload_n 0, 1) := by decide +kernel
theorem dX6_init_5 : decode cX6_init 5 = .ok (.sipush 300, 3) := by decide +kernel
theorem dX6_init_8 : decode cX6_init 8 = .ok (.newarray .int, 2) := by decide +kernel
theorem dX6_init_10 : decode cX6_init 10 = .ok (.putfield 9, 3) := by decide +kernel
theorem dX6_init_13 : decode cX6_init 13 = .ok (.return_, 1) := by decide +kernel
theorem dX6_append_0 : decode cX6_append 0 = .ok (.iload_n 3, 1) := by decide +kernel
theorem dX6_append_1 : decode cX6_append 1 = .ok (.iconst 1, 1) := by decide +kernel
theorem dX6_append_2 : decode cX6_append 2 = .ok (.if_icmp .lt 23, 3) := by decide +kernel
theorem dX6_append_5 : decode cX6_append 5 = .ok (.iload_n 3, 1) := by decide +kernel
theorem dX6_append_6 : decode cX6_append 6 = .ok (.bipush 8, 2) := by decide +kernel
theorem dX6_append_8 : decode cX6_append 8 = .ok (.if_icmp .gt 17, 3) := by decide +kernel
theorem dX6_append_11 : decode cX6_append 11 = .ok (.aload_n 0, 1) := by decide +kernel
theorem dX6_append_12 : decode cX6_append 12 = .ok (.getfield 15, 3) := by decide +kernel
theorem dX6_append_15 : decode cX6_append 15 = .ok (.aload_n 0, 1) := by decide +kernel
theorem dX6_append_16 : decode cX6_append 16 = .ok (.getfield 9, 3) := by decide +kernel
theorem dX6_append_19 : decode cX6_append 19 = .ok (.arraylength, 1) := by decide +kernel
theorem dX6_append_20 : decode cX6_append 20 = .ok (.iload_n 3, 1) := by decide +kernel
theorem dX6_append_21 : decode cX6_append 21 = .ok (.isub, 1) := by decide +kernel
theorem dX6_append_22 : decode cX6_append 22 = .ok (.if_icmp .le 5, 3) := by decide +kernel
theorem dX6_append_25 : decode cX6_append 25 = .ok (.iconst 0, 1) := by decide +kernel
theorem dX6_append_26 : decode cX6_append 26 = .ok (.ireturn, 1) := by decide +kernel
theorem dX6_append_27 : decode cX6_append 27 = .ok (.iload_n 3, 1) := by decide +kernel
theorem dX6_append_28 : decode cX6_append 28 = .ok (.iconst 1, 1) := by decide +kernel
theorem dX6_append_29 : decode cX6_append 29 = .ok (.isub, 1) := by decide +kernel
theorem dX6_append_30 : decode cX6_append 30 = .ok (.istore 4, 2) := by decide +kernel
theorem dX6_append_32 : decode cX6_append 32 = .ok (.iload 4, 2) := by decide +kernel
theorem dX6_append_34 : decode cX6_append 34 = .ok (.ifCond .lt 40, 3) := by decide +kernel
theorem dX6_append_37 : decode cX6_append 37 = .ok (.aload_n 0, 1) := by decide +kernel
theorem dX6_append_38 : decode cX6_append 38 = .ok (.getfield 9, 3) := by decide +kernel
theorem dX6_append_41 : decode cX6_append 41 = .ok (.aload_n 0, 1) := by decide +kernel
theorem dX6_append_42 : decode cX6_append 42 = .ok (.getfield 15, 3) := by decide +kernel
theorem dX6_append_45 : decode cX6_append 45 = .ok (.lload_n 1, 1) := by decide +kernel
theorem dX6_append_46 : decode cX6_append 46 = .ok (.bipush 8, 2) := by decide +kernel
theorem dX6_append_48 : decode cX6_append 48 = .ok (.iload 4, 2) := by decide +kernel
theorem dX6_append_50 : decode cX6_append 50 = .ok (.imul, 1) := by decide +kernel
theorem dX6_append_51 : decode cX6_append 51 = .ok (.lushr, 1) := by decide +kernel
theorem dX6_append_52 : decode cX6_append 52 = .ok (.l2i, 1) := by decide +kernel
theorem dX6_append_53 : decode cX6_append 53 = .ok (.sipush 255, 3) := by decide +kernel
theorem dX6_append_56 : decode cX6_append 56 = .ok (.iand, 1) := by decide +kernel
theorem dX6_append_57 : decode cX6_append 57 = .ok (.iastore, 1) := by decide +kernel
theorem dX6_append_58 : decode cX6_append 58 = .ok (.aload_n 0, 1) := by decide +kernel
theorem dX6_append_59 : decode cX6_append 59 = .ok (.dup, 1) := by decide +kernel
theorem dX6_append_60 : decode cX6_append 60 = .ok (.getfield 15, 3) := by decide +kernel
theorem dX6_append_63 : decode cX6_append 63 = .ok (.iconst 1, 1) := by decide +kernel
theorem dX6_append_64 : decode cX6_append 64 = .ok (.iadd, 1) := by decide +kernel
theorem dX6_append_65 : decode cX6_append 65 = .ok (.putfield 15, 3) := by decide +kernel
theorem dX6_append_68 : decode cX6_append 68 = .ok (.iinc 4 (-1), 3) := by decide +kernel
theorem dX6_append_71 : decode cX6_append 71 = .ok (.goto (-39), 3) := by decide +kernel
theorem dX6_append_74 : decode cX6_append 74 = .ok (.iconst 1, 1) := by decide +kernel
theorem dX6_append_75 : decode cX6_append 75 = .ok (.ireturn, 1) := by decide +kernel
theorem dX6_empty_0 : decode cX6_empty 0 = .ok (.aload_n 0, 1) := by decide +kernel
theorem dX6_empty_1 : decode cX6_empty 1 = .ok (.getfield 15, 3) := by decide +kernel
theorem dX6_empty_4 : decode cX6_empty 4 = .ok (.istore_n 1, 1) := by decide +kernel
theorem dX6_empty_5 : decode cX6_empty 5 = .ok (.aload_n 0, 1) := by decide +kernel
theorem dX6_empty_6 : decode cX6_empty 6 = .ok (.iconst 0, 1) := by decide +kernel
theorem dX6_empty_7 : decode cX6_empty 7 = .ok (.putfield 15, 3) := by decide +kernel
theorem dX6_empty_10 : decode cX6_empty 10 = .ok (.iload_n 1, 1) := by decide +kernel
theorem dX6_empty_11 : decode cX6_empty 11 = .ok (.ireturn, 1) := by decide +kernel
theorem dX6_byteAt_0 : decode cX6_byteAt 0 = .ok (.iload_n 1, 1) := by decide +kernel
theorem dX6_byteAt_1 : decode cX6_byteAt 1 = .ok (.ifCond .lt 20, 3) := by decide +kernel
theorem dX6_byteAt_4 : decode cX6_byteAt 4 = .ok (.iload_n 1, 1) := by decide +kernel
theorem dX6_byteAt_5 : decode cX6_byteAt 5 = .ok (.aload_n 0, 1) := by decide +kernel
theorem dX6_byteAt_6 : decode cX6_byteAt 6 = .ok (.getfield 15, 3) := by decide +kernel
theorem dX6_byteAt_9 : decode cX6_byteAt 9 = .ok (.if_icmp .ge 12, 3) := by decide +kernel
theorem dX6_byteAt_12 : decode cX6_byteAt 12 = .ok (.aload_n 0, 1) := by decide +kernel
theorem dX6_byteAt_13 : decode cX6_byteAt 13 = .ok (.getfield 9, 3) := by decide +kernel
theorem dX6_byteAt_16 : decode cX6_byteAt 16 = .ok (.iload_n 1, 1) := by decide +kernel
theorem dX6_byteAt_17 : decode cX6_byteAt 17 = .ok (.iaload, 1) := by decide +kernel
theorem dX6_byteAt_18 : decode cX6_byteAt 18 = .ok (.goto 5, 3) := by decide +kernel
theorem dX6_byteAt_21 : decode cX6_byteAt 21 = .ok (.bipush (-9), 2) := by decide +kernel
theorem dX6_byteAt_23 : decode cX6_byteAt 23 = .ok (.ireturn, 1) := by decide +kernel
theorem dX7_init_0 : decode cX7_init 0 = .ok (.aload_n 0, 1) := by decide +kernel
theorem dX7_init_1 : decode cX7_init 1 = .ok (.invokespecial 3, 3) := by decide +kernel
theorem dX7_init_4 : decode cX7_init 4 = .ok (.aload_n 0, 1) := by decide +kernel
theorem dX7_init_5 : decode cX7_init 5 = .ok (.sipush 301, 3) := by decide +kernel
theorem dX7_init_8 : decode cX7_init 8 = .ok (.newarray .int, 2) := by decide +kernel
theorem dX7_init_10 : decode cX7_init 10 = .ok (.putfield 9, 3) := by decide +kernel
theorem dX7_init_13 : decode cX7_init 13 = .ok (.aload_n 0, 1) := by decide +kernel
theorem dX7_init_14 : decode cX7_init 14 = .ok (.sipush 301, 3) := by decide +kernel
theorem dX7_init_17 : decode cX7_init 17 = .ok (.newarray .int, 2) := by decide +kernel
theorem dX7_init_19 : decode cX7_init 19 = .ok (.putfield 15, 3) := by decide +kernel
theorem dX7_init_22 : decode cX7_init 22 = .ok (.aload_n 0, 1) := by decide +kernel
theorem dX7_init_23 : decode cX7_init 23 = .ok (.sipush 301, 3) := by decide +kernel
theorem dX7_init_26 : decode cX7_init 26 = .ok (.newarray .int, 2) := by decide +kernel
theorem dX7_init_28 : decode cX7_init 28 = .ok (.putfield 18, 3) := by decide +kernel
theorem dX7_init_31 : decode cX7_init 31 = .ok (.return_, 1) := by decide +kernel
set_option maxRecDepth 20000 in
theorem ggX7_split_X7_readOne : GoodIn wsX7_split wsX7_readOne := goodIn_r _ [13, 3, 8, 14, 15, 16, 17, 18, 19, 20, 21, 22, 12, 23, 24, 25, 26, 27, 28, 29, 30, 31, 32, 33, 34, 35, 36, 37, 38, 39, 40, 41, 42, 43, 44, 45, 46, 47, 48, 49, 50, 51, 52, 53, 54, 55, 56, 57, 58, 59, 60, 61, 62, 63, 64, 65, 66, 67, 68, 69, 70, 71, 72, 73, 74, 75, 76, 77, 78, 79, 80, 81, 82, 83, 84, 85, 86, 87, 5, 88, 89, 90, 91, 92, 93, 94, 95, 96, 97, 98, 99, 100, 101] (by decide +kernel) (by decide +kernel)
set_option maxRecDepth 20000 in
theorem gX7_split_X7_readOne : GoodIn wsX7_split (wsV RX7 34 RX7 yX7_readOne wsX7_readOne) := goodIn_app (goodIn_of _ (by decide +kernel)) ggX7_split_X7_readOne
theorem dX7_split_0 : decode cX7_split 0 = .ok (.aload_n 0, 1) := by decide +kernel
theorem dX7_split_1 : decode cX7_split 1 = .ok (.iconst 0, 1) := by decide +kernel
theorem dX7_split_2 : decode cX7_split 2 = .ok (.putfield 21, 3) := by decide +kernel
theorem dX7_split_5 : decode cX7_split 5 = .ok (.aload_n 0, 1) := by decide +kernel
theorem dX7_split_6 : decode cX7_split 6 = .ok (.iconst 0, 1) := by decide +kernel
theorem dX7_split_7 : decode cX7_split 7 = .ok (.putfield 25, 3) := by decide +kernel
theorem dX7_split_10 : decode cX7_split 10 = .ok (.aload_n 0, 1) := by decide +kernel
theorem dX7_split_11 : decode cX7_split 11 = .ok (.iconst 0, 1) := by decide +kernel
theorem dX7_split_12 : decode cX7_split 12 = .ok (.putfield 28, 3) := by decide +kernel
theorem dX7_split_15 : decode cX7_split 15 = .ok (.iconst 1, 1) := by decide +kernel
theorem dX7_split_16 : decode cX7_split 16 = .ok (.istore_n 2, 1) := by decide +kernel
theorem dX7_split_17 : decode cX7_split 17 = .ok (.aload_n 0, 1) := by decide +kernel
theorem dX7_split_18 : decode cX7_split 18 = .ok (.getfield 21, 3) := by decide +kernel
theorem dX7_split_21 : decode cX7_split 21 = .ok (.aload_n 0, 1) := by decide +kernel
theorem dX7_split_22 : decode cX7_split 22 = .ok (.getfield 9, 3) := by decide +kernel
theorem dX7_split_25 : decode cX7_split 25 = .ok (.arraylength, 1) := by decide +kernel
theorem dX7_split_26 : decode cX7_split 26 = .ok (.if_icmp .ge 67, 3) := by decide +kernel
theorem dX7_split_29 : decode cX7_split 29 = .ok (.iload_n 2, 1) := by decide +kernel
theorem dX7_split_30 : decode cX7_split 30 = .ok (.ifCond .eq 63, 3) := by decide +kernel
theorem dX7_split_33 : decode cX7_split 33 = .ok (.aload_n 0, 1) := by decide +kernel
theorem dX7_split_34 : decode cX7_split 34 = .ok (.iconst 0, 1) := by decide +kernel
theorem dX7_split_35 : decode cX7_split 35 = .ok (.putfield 31, 3) := by decide +kernel
theorem dX7_split_38 : decode cX7_split 38 = .ok (.aload_n 0, 1) := by decide +kernel
theorem dX7_split_39 : decode cX7_split 39 = .ok (.aload_n 1, 1) := by decide +kernel
theorem dX7_split_40 : decode cX7_split 40 = .ok (.invokevirtual 34, 3) := by decide +kernel
theorem dX7_split_43 : decode cX7_split 43 = .ok (.istore_n 2, 1) := by decide +kernel
theorem dX7_split_44 : decode cX7_split 44 = .ok (.aload_n 0, 1) := by decide +kernel
theorem dX7_split_45 : decode cX7_split 45 = .ok (.getfield 9, 3) := by decide +kernel
theorem dX7_split_48 : decode cX7_split 48 = .ok (.aload_n 0, 1) := by decide +kernel
theorem dX7_split_49 : decode cX7_split 49 = .ok (.getfield 21, 3) := by decide +kernel
theorem dX7_split_52 : decode cX7_split 52 = .ok (.iload_n 2, 1) := by decide +kernel
theorem dX7_split_53 : decode cX7_split 53 = .ok (.iastore, 1) := by decide +kernel
theorem dX7_split_54 : decode cX7_split 54 = .ok (.aload_n 0, 1) := by decide +kernel
theorem dX7_split_55 : decode cX7_split 55 = .ok (.getfield 15, 3) := by decide +kernel
theorem dX7_split_58 : decode cX7_split 58 = .ok (.aload_n 0, 1) := by decide +kernel
theorem dX7_split_59 : decode cX7_split 59 = .ok (.getfield 21, 3) := by decide +kernel
theorem dX7_split_62 : decode cX7_split 62 = .ok (.aload_n 0, 1) := by decide +kernel
theorem dX7_split_63 : decode cX7_split 63 = .ok (.getfield 31, 3) := by decide +kernel
theorem dX7_split_66 : decode cX7_split 66 = .ok (.iastore, 1) := by decide +kernel
theorem dX7_split_67 : decode cX7_split 67 = .ok (.aload_n 0, 1) := by decide +kernel
theorem dX7_split_68 : decode cX7_split 68 = .ok (.getfield 18, 3) := by decide +kernel
theorem dX7_split_71 : decode cX7_split 71 = .ok (.aload_n 0, 1) := by decide +kernel
theorem dX7_split_72 : decode cX7_split 72 = .ok (.getfield 21, 3) := by decide +kernel
theorem dX7_split_75 : decode cX7_split 75 = .ok (.aload_n 0, 1) := by decide +kernel
theorem dX7_split_76 : decode cX7_split 76 = .ok (.getfield 38, 3) := by decide +kernel
theorem dX7_split_79 : decode cX7_split 79 = .ok (.iastore, 1) := by decide +kernel
theorem dX7_split_80 : decode cX7_split 80 = .ok (.aload_n 0, 1) := by decide +kernel
theorem dX7_split_81 : decode cX7_split 81 = .ok (.dup, 1) := by decide +kernel
theorem dX7_split_82 : decode cX7_split 82 = .ok (.getfield 21, 3) := by decide +kernel
theorem dX7_split_85 : decode cX7_split 85 = .ok (.iconst 1, 1) := by decide +kernel
theorem dX7_split_86 : decode cX7_split 86 = .ok (.iadd, 1) := by decide +kernel
theorem dX7_split_87 : decode cX7_split 87 = .ok (.putfield 21, 3) := by decide +kernel
theorem dX7_split_90 : decode cX7_split 90 = .ok (.goto (-73), 3) := by decide +kernel
theorem dX7_split_93 : decode cX7_split 93 = .ok (.return_, 1) := by decide +kernel
theorem dX7_advance_0 : decode cX7_advance 0 = .ok (.aload_n 0, 1) := by decide +kernel
theorem dX7_advance_1 : decode cX7_advance 1 = .ok (.getfield 25, 3) := by decide +kernel
theorem dX7_advance_4 : decode cX7_advance 4 = .ok (.aload_n 0, 1) := by decide +kernel
theorem dX7_advance_5 : decode cX7_advance 5 = .ok (.getfield 21, 3) := by decide +kernel
theorem dX7_advance_8 : decode cX7_advance 8 = .ok (.iconst 1, 1) := by decide +kernel
theorem dX7_advance_9 : decode cX7_advance 9 = .ok (.isub, 1) := by decide +kernel
theorem dX7_advance_10 : decode cX7_advance 10 = .ok (.if_icmp .ge 13, 3) := by decide +kernel
theorem dX7_advance_13 : decode cX7_advance 13 = .ok (.aload_n 0, 1) := by decide +kernel
theorem dX7_advance_14 : decode cX7_advance 14 = .ok (.dup, 1) := by decide +kernel
theorem dX7_advance_15 : decode cX7_advance 15 = .ok (.getfield 25, 3) := by decide +kernel
theorem dX7_advance_18 : decode cX7_advance 18 = .ok (.iconst 1, 1) := by decide +kernel
theorem dX7_advance_19 : decode cX7_advance 19 = .ok (.iadd, 1) := by decide +kernel
theorem dX7_advance_20 : decode cX7_advance 20 = .ok (.putfield 25, 3) := by decide +kernel
theorem dX7_advance_23 : decode cX7_advance 23 = .ok (.return_, 1) := by decide +kernel
theorem dX7_kind_0 : decode cX7_kind 0 = .ok (.aload_n 0, 1) := by decide +kernel
theorem dX7_kind_1 : decode cX7_kind 1 = .ok (.getfield 25, 3) := by decide +kernel
theorem dX7_kind_4 : decode cX7_kind 4 = .ok (.aload_n 0, 1) := by decide +kernel
theorem dX7_kind_5 : decode cX7_kind 5 = .ok (.getfield 21, 3) := by decide +kernel
theorem dX7_kind_8 : decode cX7_kind 8 = .ok (.if_icmp .ge 15, 3) := by decide +kernel
theorem dX7_kind_11 : decode cX7_kind 11 = .ok (.aload_n 0, 1) := by decide +kernel
theorem dX7_kind_12 : decode cX7_kind 12 = .ok (.getfield 9, 3) := by decide +kernel
theorem dX7_kind_15 : decode cX7_kind 15 = .ok (.aload_n 0, 1) := by decide +kernel
theorem dX7_kind_16 : decode cX7_kind 16 = .ok (.getfield 25, 3) := by decide +kernel
theorem dX7_kind_19 : decode cX7_kind 19 = .ok (.iaload, 1) := by decide +kernel
theorem dX7_kind_20 : decode cX7_kind 20 = .ok (.goto 4, 3) := by decide +kernel
theorem dX7_kind_23 : decode cX7_kind 23 = .ok (.iconst 0, 1) := by decide +kernel
theorem dX7_kind_24 : decode cX7_kind 24 = .ok (.ireturn, 1) := by decide +kernel
theorem dX7_place_0 : decode cX7_place 0 = .ok (.aload_n 0, 1) := by decide +kernel
theorem dX7_place_1 : decode cX7_place 1 = .ok (.getfield 25, 3) := by decide +kernel
theorem dX7_place_4 : decode cX7_place 4 = .ok (.aload_n 0, 1) := by decide +kernel
theorem dX7_place_5 : decode cX7_place 5 = .ok (.getfield 21, 3) := by decide +kernel
theorem dX7_place_8 : decode cX7_place 8 = .ok (.if_icmp .ge 15, 3) := by decide +kernel
theorem dX7_place_11 : decode cX7_place 11 = .ok (.aload_n 0, 1) := by decide +kernel
theorem dX7_place_12 : decode cX7_place 12 = .ok (.getfield 18, 3) := by decide +kernel
theorem dX7_place_15 : decode cX7_place 15 = .ok (.aload_n 0, 1) := by decide +kernel
theorem dX7_place_16 : decode cX7_place 16 = .ok (.getfield 25, 3) := by decide +kernel
theorem dX7_place_19 : decode cX7_place 19 = .ok (.iaload, 1) := by decide +kernel
theorem dX7_place_20 : decode cX7_place 20 = .ok (.goto 4, 3) := by decide +kernel
theorem dX7_place_23 : decode cX7_place 23 = .ok (.iconst 0, 1) := by decide +kernel
theorem dX7_place_24 : decode cX7_place 24 = .ok (.ireturn, 1) := by decide +kernel
set_option maxRecDepth 20000 in
theorem ggX7_numberFrom_X7_kind : GoodIn wsX7_numberFrom wsX7_kind := goodIn_r _ [7, 2, 8, 9, 10, 11, 12, 13, 14, 15, 16, 17] (by decide +kernel) (by decide +kernel)
set_option maxRecDepth 20000 in
theorem gX7_numberFrom_X7_kind : GoodIn wsX7_numberFrom (wsV RX7 41 RX7 yX7_kind wsX7_kind) := goodIn_app (goodIn_of _ (by decide +kernel)) ggX7_numberFrom_X7_kind
theorem dX7_numberFrom_0 : decode cX7_numberFrom 0 = .ok (.aload_n 0, 1) := by decide +kernel
theorem dX7_numberFrom_1 : decode cX7_numberFrom 1 = .ok (.invokevirtual 41, 3) := by decide +kernel
theorem dX7_numberFrom_4 : decode cX7_numberFrom 4 = .ok (.iconst 3, 1) := by decide +kernel
theorem dX7_numberFrom_5 : decode cX7_numberFrom 5 = .ok (.if_icmp .ne 33, 3) := by decide +kernel
theorem dX7_numberFrom_8 : decode cX7_numberFrom 8 = .ok (.aload_n 0, 1) := by decide +kernel
theorem dX7_numberFrom_9 : decode cX7_numberFrom 9 = .ok (.getfield 15, 3) := by decide +kernel
theorem dX7_numberFrom_12 : decode cX7_numberFrom 12 = .ok (.aload_n 0, 1) := by decide +kernel
theorem dX7_numberFrom_13 : decode cX7_numberFrom 13 = .ok (.getfield 25, 3) := by decide +kernel
theorem dX7_numberFrom_16 : decode cX7_numberFrom 16 = .ok (.iaload, 1) := by decide +kernel
theorem dX7_numberFrom_17 : decode cX7_numberFrom 17 = .ok (.iload_n 1, 1) := by decide +kernel
theorem dX7_numberFrom_18 : decode cX7_numberFrom 18 = .ok (.if_icmp .lt 20, 3) := by decide +kernel
theorem dX7_numberFrom_21 : decode cX7_numberFrom 21 = .ok (.aload_n 0, 1) := by decide +kernel
theorem dX7_numberFrom_22 : decode cX7_numberFrom 22 = .ok (.getfield 15, 3) := by decide +kernel
theorem dX7_numberFrom_25 : decode cX7_numberFrom 25 = .ok (.aload_n 0, 1) := by decide +kernel
theorem dX7_numberFrom_26 : decode cX7_numberFrom 26 = .ok (.getfield 25, 3) := by decide +kernel
theorem dX7_numberFrom_29 : decode cX7_numberFrom 29 = .ok (.iaload, 1) := by decide +kernel
theorem dX7_numberFrom_30 : decode cX7_numberFrom 30 = .ok (.iload_n 2, 1) := by decide +kernel
theorem dX7_numberFrom_31 : decode cX7_numberFrom 31 = .ok (.if_icmp .gt 7, 3) := by decide +kernel
theorem dX7_numberFrom_34 : decode cX7_numberFrom 34 = .ok (.iconst 1, 1) := by decide +kernel
theorem dX7_numberFrom_35 : decode cX7_numberFrom 35 = .ok (.goto 4, 3) := by decide +kernel
theorem dX7_numberFrom_38 : decode cX7_numberFrom 38 = .ok (.iconst 0, 1) := by decide +kernel
theorem dX7_numberFrom_39 : decode cX7_numberFrom 39 = .ok (.istore_n 3, 1) := by decide +kernel
theorem dX7_numberFrom_40 : decode cX7_numberFrom 40 = .ok (.iload_n 3, 1) := by decide +kernel
theorem dX7_numberFrom_41 : decode cX7_numberFrom 41 = .ok (.ifCond .eq 15, 3) := by decide +kernel
theorem dX7_numberFrom_44 : decode cX7_numberFrom 44 = .ok (.aload_n 0, 1) := by decide +kernel
theorem dX7_numberFrom_45 : decode cX7_numberFrom 45 = .ok (.getfield 15, 3) := by decide +kernel
theorem dX7_numberFrom_48 : decode cX7_numberFrom 48 = .ok (.aload_n 0, 1) := by decide +kernel
theorem dX7_numberFrom_49 : decode cX7_numberFrom 49 = .ok (.getfield 25, 3) := by decide +kernel
theorem dX7_numberFrom_52 : decode cX7_numberFrom 52 = .ok (.iaload, 1) := by decide +kernel
theorem dX7_numberFrom_53 : decode cX7_numberFrom 53 = .ok (.goto 5, 3) := by decide +kernel
theorem dX7_numberFrom_56 : decode cX7_numberFrom 56 = .ok (.bipush (-9), 2) := by decide +kernel
theorem dX7_numberFrom_58 : decode cX7_numberFrom 58 = .ok (.ireturn, 1) := by decide +kernel
set_option maxRecDepth 20000 in
theorem ggX7_readOne_X6_byteAt : GoodIn wsX7_readOne wsX6_byteAt := goodIn_r _ [7, 8, 9, 91, 92] (by decide +kernel) (by decide +kernel)
set_option maxRecDepth 20000 in
theorem gX7_readOne_X6_byteAt : GoodIn wsX7_readOne (wsV RX7 50 RX6 yX6_byteAt wsX6_byteAt) := goodIn_app (goodIn_of _ (by decide +kernel)) ggX7_readOne_X6_byteAt
set_option maxRecDepth 20000 in
theorem ggX7_readOne_X7_isLetter : GoodIn wsX7_readOne wsX7_isLetter := goodIn_r _ [13] (by decide +kernel) (by decide +kernel)
set_option maxRecDepth 20000 in
theorem gX7_readOne_X7_isLetter : GoodIn wsX7_readOne (va_wsS RX7 54 yX7_isLetter wsX7_isLetter) := goodIn_app (goodIn_of _ (by decide +kernel)) ggX7_readOne_X7_isLetter
set_option maxRecDepth 20000 in
theorem ggX7_readOne_X7_readWord : GoodIn wsX7_readOne wsX7_readWord := goodIn_r _ [17, 1, 3, 4, 5, 6, 7, 8, 9, 10, 11, 12, 13, 18, 19, 20, 21, 2, 22, 23, 24, 25, 26, 27, 28, 29, 30, 31, 32, 33, 34, 35, 36, 37, 38, 39, 40, 41, 42, 43, 44, 45, 46, 47, 48, 49, 50, 51, 52, 53, 54, 55, 56, 57, 58, 59, 60, 61, 62, 63, 64, 65, 66, 67, 68, 69, 70, 83, 84, 85, 86, 87, 88, 89, 90, 91, 92] (by decide +kernel) (by decide +kernel)
set_option maxRecDepth 20000 in
theorem gX7_readOne_X7_readWord : GoodIn wsX7_readOne (wsV RX7 58 RX7 yX7_readWord wsX7_readWord) := goodIn_app (goodIn_of _ (by decide +kernel)) ggX7_readOne_X7_readWord
set_option maxRecDepth 20000 in
theorem ggX7_readOne_X7_isDigit : GoodIn wsX7_readOne wsX7_isDigit := goodIn_r _ [73] (by decide +kernel) (by decide +kernel)
set_option maxRecDepth 20000 in
theorem gX7_readOne_X7_isDigit : GoodIn wsX7_readOne (va_wsS RX7 61 yX7_isDigit wsX7_isDigit) := goodIn_app (goodIn_of _ (by decide +kernel)) ggX7_readOne_X7_isDigit
set_option maxRecDepth 20000 in
theorem ggX7_readOne_X7_readNumber : GoodIn wsX7_readOne wsX7_readNumber := goodIn_r _ [77, 1, 78, 79, 80, 81, 82, 2, 3, 4, 5, 6, 7, 8, 9, 71, 72, 12, 73, 83, 84, 85, 86, 87, 88, 89, 90, 91, 92] (by decide +kernel) (by decide +kernel)
set_option maxRecDepth 20000 in
theorem gX7_readOne_X7_readNumber : GoodIn wsX7_readOne (wsV RX7 64 RX7 yX7_readNumber wsX7_readNumber) := goodIn_app (goodIn_of _ (by decide +kernel)) ggX7_readOne_X7_readNumber
theorem dX7_readOne_0 : decode cX7_readOne 0 = .ok (.aload_n 0, 1) := by decide +kernel
theorem dX7_readOne_1 : decode cX7_readOne 1 = .ok (.getfield 28, 3) := by decide +kernel
theorem dX7_readOne_4 : decode cX7_readOne 4 = .ok (.aload_n 1, 1) := by decide +kernel
theorem dX7_readOne_5 : decode cX7_readOne 5 = .ok (.getfield 45, 3) := by decide +kernel
theorem dX7_readOne_8 : decode cX7_readOne 8 = .ok (.if_icmp .ge 29, 3) := by decide +kernel
theorem dX7_readOne_11 : decode cX7_readOne 11 = .ok (.aload_n 1, 1) := by decide +kernel
theorem dX7_readOne_12 : decode cX7_readOne 12 = .ok (.aload_n 0, 1) := by decide +kernel
theorem dX7_readOne_13 : decode cX7_readOne 13 = .ok (.getfield 28, 3) := by decide +kernel
theorem dX7_readOne_16 : decode cX7_readOne 16 = .ok (.invokevirtual 50, 3) := by decide +kernel
theorem dX7_readOne_19 : decode cX7_readOne 19 = .ok (.bipush 32, 2) := by decide +kernel
theorem dX7_readOne_21 : decode cX7_readOne 21 = .ok (.if_icmp .ne 16, 3) := by decide +kernel
theorem dX7_readOne_24 : decode cX7_readOne 24 = .ok (.aload_n 0, 1) := by decide +kernel
theorem dX7_readOne_25 : decode cX7_readOne 25 = .ok (.dup, 1) := by decide +kernel
theorem dX7_readOne_26 : decode cX7_readOne 26 = .ok (.getfield 28, 3) := by decide +kernel
theorem dX7_readOne_29 : decode cX7_readOne 29 = .ok (.iconst 1, 1) := by decide +kernel
theorem dX7_readOne_30 : decode cX7_readOne 30 = .ok (.iadd, 1) := by decide +kernel
theorem dX7_readOne_31 : decode cX7_readOne 31 = .ok (.putfield 28, 3) := by decide +kernel
theorem dX7_readOne_34 : decode cX7_readOne 34 = .ok (.goto (-34), 3) := by decide +kernel
theorem dX7_readOne_37 : decode cX7_readOne 37 = .ok (.aload_n 0, 1) := by decide +kernel
theorem dX7_readOne_38 : decode cX7_readOne 38 = .ok (.aload_n 0, 1) := by decide +kernel
theorem dX7_readOne_39 : decode cX7_readOne 39 = .ok (.getfield 28, 3) := by decide +kernel
theorem dX7_readOne_42 : decode cX7_readOne 42 = .ok (.putfield 38, 3) := by decide +kernel
theorem dX7_readOne_45 : decode cX7_readOne 45 = .ok (.aload_n 1, 1) := by decide +kernel
theorem dX7_readOne_46 : decode cX7_readOne 46 = .ok (.aload_n 0, 1) := by decide +kernel
theorem dX7_readOne_47 : decode cX7_readOne 47 = .ok (.getfield 38, 3) := by decide +kernel
theorem dX7_readOne_50 : decode cX7_readOne 50 = .ok (.invokevirtual 50, 3) := by decide +kernel
theorem dX7_readOne_53 : decode cX7_readOne 53 = .ok (.istore_n 2, 1) := by decide +kernel
theorem dX7_readOne_54 : decode cX7_readOne 54 = .ok (.iload_n 2, 1) := by decide +kernel
theorem dX7_readOne_55 : decode cX7_readOne 55 = .ok (.bipush (-9), 2) := by decide +kernel
theorem dX7_readOne_57 : decode cX7_readOne 57 = .ok (.if_icmp .ne 5, 3) := by decide +kernel
theorem dX7_readOne_60 : decode cX7_readOne 60 = .ok (.iconst 0, 1) := by decide +kernel
theorem dX7_readOne_61 : decode cX7_readOne 61 = .ok (.ireturn, 1) := by decide +kernel
theorem dX7_readOne_62 : decode cX7_readOne 62 = .ok (.iload_n 2, 1) := by decide +kernel
theorem dX7_readOne_63 : decode cX7_readOne 63 = .ok (.invokestatic 54, 3) := by decide +kernel
theorem dX7_readOne_66 : decode cX7_readOne 66 = .ok (.ifCond .eq 9, 3) := by decide +kernel
theorem dX7_readOne_69 : decode cX7_readOne 69 = .ok (.aload_n 0, 1) := by decide +kernel
theorem dX7_readOne_70 : decode cX7_readOne 70 = .ok (.aload_n 1, 1) := by decide +kernel
theorem dX7_readOne_71 : decode cX7_readOne 71 = .ok (.invokevirtual 58, 3) := by decide +kernel
theorem dX7_readOne_74 : decode cX7_readOne 74 = .ok (.ireturn, 1) := by decide +kernel
theorem dX7_readOne_75 : decode cX7_readOne 75 = .ok (.iload_n 2, 1) := by decide +kernel
theorem dX7_readOne_76 : decode cX7_readOne 76 = .ok (.invokestatic 61, 3) := by decide +kernel
theorem dX7_readOne_79 : decode cX7_readOne 79 = .ok (.ifCond .eq 9, 3) := by decide +kernel
theorem dX7_readOne_82 : decode cX7_readOne 82 = .ok (.aload_n 0, 1) := by decide +kernel
theorem dX7_readOne_83 : decode cX7_readOne 83 = .ok (.aload_n 1, 1) := by decide +kernel
theorem dX7_readOne_84 : decode cX7_readOne 84 = .ok (.invokevirtual 64, 3) := by decide +kernel
theorem dX7_readOne_87 : decode cX7_readOne 87 = .ok (.ireturn, 1) := by decide +kernel
theorem dX7_readOne_88 : decode cX7_readOne 88 = .ok (.aload_n 0, 1) := by decide +kernel
theorem dX7_readOne_89 : decode cX7_readOne 89 = .ok (.dup, 1) := by decide +kernel
theorem dX7_readOne_90 : decode cX7_readOne 90 = .ok (.getfield 28, 3) := by decide +kernel
theorem dX7_readOne_93 : decode cX7_readOne 93 = .ok (.iconst 1, 1) := by decide +kernel
theorem dX7_readOne_94 : decode cX7_readOne 94 = .ok (.iadd, 1) := by decide +kernel
theorem dX7_readOne_95 : decode cX7_readOne 95 = .ok (.putfield 28, 3) := by decide +kernel
theorem dX7_readOne_98 : decode cX7_readOne 98 = .ok (.iload_n 2, 1) := by decide +kernel
theorem dX7_readOne_99 : decode cX7_readOne 99 = .ok (.bipush 59, 2) := by decide +kernel
theorem dX7_readOne_101 : decode cX7_readOne 101 = .ok (.if_icmp .ne 7, 3) := by decide +kernel
theorem dX7_readOne_104 : decode cX7_readOne 104 = .ok (.iconst 2, 1) := by decide +kernel
theorem dX7_readOne_105 : decode cX7_readOne 105 = .ok (.goto 4, 3) := by decide +kernel
theorem dX7_readOne_108 : decode cX7_readOne 108 = .ok (.iconst 1, 1) := by decide +kernel
theorem dX7_readOne_109 : decode cX7_readOne 109 = .ok (.ireturn, 1) := by decide +kernel
set_option maxRecDepth 20000 in
theorem ggX7_readWord_X6_byteAt : GoodIn wsX7_readWord wsX6_byteAt := goodIn_r _ [6, 7, 8, 75, 76] (by decide +kernel) (by decide +kernel)
set_option maxRecDepth 20000 in
theorem gX7_readWord_X6_byteAt : GoodIn wsX7_readWord (wsV RX7 50 RX6 yX6_byteAt wsX6_byteAt) := goodIn_app (goodIn_of _ (by decide +kernel)) ggX7_readWord_X6_byteAt
set_option maxRecDepth 20000 in
theorem ggX7_readWord_X7_isLetter : GoodIn wsX7_readWord wsX7_isLetter := goodIn_r _ [12] (by decide +kernel) (by decide +kernel)
set_option maxRecDepth 20000 in
theorem gX7_readWord_X7_isLetter : GoodIn wsX7_readWord (va_wsS RX7 54 yX7_isLetter wsX7_isLetter) := goodIn_app (goodIn_of _ (by decide +kernel)) ggX7_readWord_X7_isLetter
set_option maxRecDepth 20000 in
theorem ggX7_readWord_X7_spells : GoodIn wsX7_readWord wsX7_spells := goodIn_r _ [16, 1, 17, 18, 19, 20, 21, 22, 23, 24, 25, 26, 27, 28, 29, 30, 31, 32, 33, 34, 35, 36, 37, 38, 39, 40, 41, 42, 43, 44, 45, 46, 47, 48, 49, 50, 51, 52, 53, 54, 55, 56, 57, 58, 59, 60, 61, 62, 63, 64, 65, 66, 2, 3, 4, 5, 6, 7, 8, 67, 68, 69, 70, 71, 72, 73, 74, 75, 76] (by decide +kernel) (by decide +kernel)
set_option maxRecDepth 20000 in
theorem gX7_readWord_X7_spells : GoodIn wsX7_readWord (wsV RX7 69 RX7 yX7_spells wsX7_spells) := goodIn_app (goodIn_of _ (by decide +kernel)) ggX7_readWord_X7_spells
theorem dX7_readWord_0 : decode cX7_readWord 0 = .ok (.aload_n 0, 1) := by decide +kernel
theorem dX7_readWord_1 : decode cX7_readWord 1 = .ok (.getfield 28, 3) := by decide +kernel
theorem dX7_readWord_4 : decode cX7_readWord 4 = .ok (.aload_n 1, 1) := by decide +kernel
theorem dX7_readWord_5 : decode cX7_readWord 5 = .ok (.getfield 45, 3) := by decide +kernel
theorem dX7_readWord_8 : decode cX7_readWord 8 = .ok (.if_icmp .ge 30, 3) := by decide +kernel
theorem dX7_readWord_11 : decode cX7_readWord 11 = .ok (.aload_n 1, 1) := by decide +kernel
theorem dX7_readWord_12 : decode cX7_readWord 12 = .ok (.aload_n 0, 1) := by decide +kernel
theorem dX7_readWord_13 : decode cX7_readWord 13 = .ok (.getfield 28, 3) := by decide +kernel
theorem dX7_readWord_16 : decode cX7_readWord 16 = .ok (.invokevirtual 50, 3) := by decide +kernel
theorem dX7_readWord_19 : decode cX7_readWord 19 = .ok (.invokestatic 54, 3) := by decide +kernel
theorem dX7_readWord_22 : decode cX7_readWord 22 = .ok (.ifCond .eq 16, 3) := by decide +kernel
theorem dX7_readWord_25 : decode cX7_readWord 25 = .ok (.aload_n 0, 1) := by decide +kernel
theorem dX7_readWord_26 : decode cX7_readWord 26 = .ok (.dup, 1) := by decide +kernel
theorem dX7_readWord_27 : decode cX7_readWord 27 = .ok (.getfield 28, 3) := by decide +kernel
theorem dX7_readWord_30 : decode cX7_readWord 30 = .ok (.iconst 1, 1) := by decide +kernel
theorem dX7_readWord_31 : decode cX7_readWord 31 = .ok (.iadd, 1) := by decide +kernel
theorem dX7_readWord_32 : decode cX7_readWord 32 = .ok (.putfield 28, 3) := by decide +kernel
theorem dX7_readWord_35 : decode cX7_readWord 35 = .ok (.goto (-35), 3) := by decide +kernel
theorem dX7_readWord_38 : decode cX7_readWord 38 = .ok (.aload_n 0, 1) := by decide +kernel
theorem dX7_readWord_39 : decode cX7_readWord 39 = .ok (.aload_n 1, 1) := by decide +kernel
theorem dX7_readWord_40 : decode cX7_readWord 40 = .ok (.ldc 67, 2) := by decide +kernel
theorem dX7_readWord_42 : decode cX7_readWord 42 = .ok (.invokevirtual 69, 3) := by decide +kernel
theorem dX7_readWord_45 : decode cX7_readWord 45 = .ok (.ifCond .eq 7, 3) := by decide +kernel
theorem dX7_readWord_48 : decode cX7_readWord 48 = .ok (.iconst 4, 1) := by decide +kernel
theorem dX7_readWord_49 : decode cX7_readWord 49 = .ok (.goto 138, 3) := by decide +kernel
theorem dX7_readWord_52 : decode cX7_readWord 52 = .ok (.aload_n 0, 1) := by decide +kernel
theorem dX7_readWord_53 : decode cX7_readWord 53 = .ok (.aload_n 1, 1) := by decide +kernel
theorem dX7_readWord_54 : decode cX7_readWord 54 = .ok (.ldc 73, 2) := by decide +kernel
theorem dX7_readWord_56 : decode cX7_readWord 56 = .ok (.invokevirtual 69, 3) := by decide +kernel
theorem dX7_readWord_59 : decode cX7_readWord 59 = .ok (.ifCond .eq 7, 3) := by decide +kernel
theorem dX7_readWord_62 : decode cX7_readWord 62 = .ok (.iconst 5, 1) := by decide +kernel
theorem dX7_readWord_63 : decode cX7_readWord 63 = .ok (.goto 124, 3) := by decide +kernel
theorem dX7_readWord_66 : decode cX7_readWord 66 = .ok (.aload_n 0, 1) := by decide +kernel
theorem dX7_readWord_67 : decode cX7_readWord 67 = .ok (.aload_n 1, 1) := by decide +kernel
theorem dX7_readWord_68 : decode cX7_readWord 68 = .ok (.ldc 75, 2) := by decide +kernel
theorem dX7_readWord_70 : decode cX7_readWord 70 = .ok (.invokevirtual 69, 3) := by decide +kernel
theorem dX7_readWord_73 : decode cX7_readWord 73 = .ok (.ifCond .eq 8, 3) := by decide +kernel
theorem dX7_readWord_76 : decode cX7_readWord 76 = .ok (.bipush 6, 2) := by decide +kernel
theorem dX7_readWord_78 : decode cX7_readWord 78 = .ok (.goto 109, 3) := by decide +kernel
theorem dX7_readWord_81 : decode cX7_readWord 81 = .ok (.aload_n 0, 1) := by decide +kernel
theorem dX7_readWord_82 : decode cX7_readWord 82 = .ok (.aload_n 1, 1) := by decide +kernel
theorem dX7_readWord_83 : decode cX7_readWord 83 = .ok (.ldc 77, 2) := by decide +kernel
theorem dX7_readWord_85 : decode cX7_readWord 85 = .ok (.invokevirtual 69, 3) := by decide +kernel
theorem dX7_readWord_88 : decode cX7_readWord 88 = .ok (.ifCond .eq 8, 3) := by decide +kernel
theorem dX7_readWord_91 : decode cX7_readWord 91 = .ok (.bipush 7, 2) := by decide +kernel
theorem dX7_readWord_93 : decode cX7_readWord 93 = .ok (.goto 94, 3) := by decide +kernel
theorem dX7_readWord_96 : decode cX7_readWord 96 = .ok (.aload_n 0, 1) := by decide +kernel
theorem dX7_readWord_97 : decode cX7_readWord 97 = .ok (.aload_n 1, 1) := by decide +kernel
theorem dX7_readWord_98 : decode cX7_readWord 98 = .ok (.ldc 79, 2) := by decide +kernel
theorem dX7_readWord_100 : decode cX7_readWord 100 = .ok (.invokevirtual 69, 3) := by decide +kernel
theorem dX7_readWord_103 : decode cX7_readWord 103 = .ok (.ifCond .eq 8, 3) := by decide +kernel
theorem dX7_readWord_106 : decode cX7_readWord 106 = .ok (.bipush 8, 2) := by decide +kernel
theorem dX7_readWord_108 : decode cX7_readWord 108 = .ok (.goto 79, 3) := by decide +kernel
theorem dX7_readWord_111 : decode cX7_readWord 111 = .ok (.aload_n 0, 1) := by decide +kernel
theorem dX7_readWord_112 : decode cX7_readWord 112 = .ok (.aload_n 1, 1) := by decide +kernel
theorem dX7_readWord_113 : decode cX7_readWord 113 = .ok (.ldc 81, 2) := by decide +kernel
theorem dX7_readWord_115 : decode cX7_readWord 115 = .ok (.invokevirtual 69, 3) := by decide +kernel
theorem dX7_readWord_118 : decode cX7_readWord 118 = .ok (.ifCond .eq 8, 3) := by decide +kernel
theorem dX7_readWord_121 : decode cX7_readWord 121 = .ok (.bipush 9, 2) := by decide +kernel
theorem dX7_readWord_123 : decode cX7_readWord 123 = .ok (.goto 64, 3) := by decide +kernel
theorem dX7_readWord_126 : decode cX7_readWord 126 = .ok (.aload_n 0, 1) := by decide +kernel
theorem dX7_readWord_127 : decode cX7_readWord 127 = .ok (.aload_n 1, 1) := by decide +kernel
theorem dX7_readWord_128 : decode cX7_readWord 128 = .ok (.ldc 83, 2) := by decide +kernel
theorem dX7_readWord_130 : decode cX7_readWord 130 = .ok (.invokevirtual 69, 3) := by decide +kernel
theorem dX7_readWord_133 : decode cX7_readWord 133 = .ok (.ifCond .eq 8, 3) := by decide +kernel
theorem dX7_readWord_136 : decode cX7_readWord 136 = .ok (.bipush 10, 2) := by decide +kernel
theorem dX7_readWord_138 : decode cX7_readWord 138 = .ok (.goto 49, 3) := by decide +kernel
theorem dX7_readWord_141 : decode cX7_readWord 141 = .ok (.aload_n 0, 1) := by decide +kernel
theorem dX7_readWord_142 : decode cX7_readWord 142 = .ok (.aload_n 1, 1) := by decide +kernel
theorem dX7_readWord_143 : decode cX7_readWord 143 = .ok (.ldc 85, 2) := by decide +kernel
theorem dX7_readWord_145 : decode cX7_readWord 145 = .ok (.invokevirtual 69, 3) := by decide +kernel
theorem dX7_readWord_148 : decode cX7_readWord 148 = .ok (.ifCond .eq 8, 3) := by decide +kernel
theorem dX7_readWord_151 : decode cX7_readWord 151 = .ok (.bipush 11, 2) := by decide +kernel
theorem dX7_readWord_153 : decode cX7_readWord 153 = .ok (.goto 34, 3) := by decide +kernel
theorem dX7_readWord_156 : decode cX7_readWord 156 = .ok (.aload_n 0, 1) := by decide +kernel
theorem dX7_readWord_157 : decode cX7_readWord 157 = .ok (.aload_n 1, 1) := by decide +kernel
theorem dX7_readWord_158 : decode cX7_readWord 158 = .ok (.ldc 87, 2) := by decide +kernel
theorem dX7_readWord_160 : decode cX7_readWord 160 = .ok (.invokevirtual 69, 3) := by decide +kernel
theorem dX7_readWord_163 : decode cX7_readWord 163 = .ok (.ifCond .eq 8, 3) := by decide +kernel
theorem dX7_readWord_166 : decode cX7_readWord 166 = .ok (.bipush 12, 2) := by decide +kernel
theorem dX7_readWord_168 : decode cX7_readWord 168 = .ok (.goto 19, 3) := by decide +kernel
theorem dX7_readWord_171 : decode cX7_readWord 171 = .ok (.aload_n 0, 1) := by decide +kernel
theorem dX7_readWord_172 : decode cX7_readWord 172 = .ok (.aload_n 1, 1) := by decide +kernel
theorem dX7_readWord_173 : decode cX7_readWord 173 = .ok (.ldc 89, 2) := by decide +kernel
theorem dX7_readWord_175 : decode cX7_readWord 175 = .ok (.invokevirtual 69, 3) := by decide +kernel
theorem dX7_readWord_178 : decode cX7_readWord 178 = .ok (.ifCond .eq 8, 3) := by decide +kernel
theorem dX7_readWord_181 : decode cX7_readWord 181 = .ok (.bipush 13, 2) := by decide +kernel
theorem dX7_readWord_183 : decode cX7_readWord 183 = .ok (.goto 4, 3) := by decide +kernel
theorem dX7_readWord_186 : decode cX7_readWord 186 = .ok (.iconst 1, 1) := by decide +kernel
theorem dX7_readWord_187 : decode cX7_readWord 187 = .ok (.ireturn, 1) := by decide +kernel
set_option maxRecDepth 20000 in
theorem ggX7_readNumber_X6_byteAt : GoodIn wsX7_readNumber wsX6_byteAt := goodIn_r _ [12, 13, 14, 27, 28] (by decide +kernel) (by decide +kernel)
set_option maxRecDepth 20000 in
theorem gX7_readNumber_X6_byteAt : GoodIn wsX7_readNumber (wsV RX7 50 RX6 yX6_byteAt wsX6_byteAt) := goodIn_app (goodIn_of _ (by decide +kernel)) ggX7_readNumber_X6_byteAt
set_option maxRecDepth 20000 in
theorem ggX7_readNumber_X7_isDigit : GoodIn wsX7_readNumber wsX7_isDigit := goodIn_r _ [18] (by decide +kernel) (by decide +kernel)
set_option maxRecDepth 20000 in
theorem gX7_readNumber_X7_isDigit : GoodIn wsX7_readNumber (va_wsS RX7 61 yX7_isDigit wsX7_isDigit) := goodIn_app (goodIn_of _ (by decide +kernel)) ggX7_readNumber_X7_isDigit
theorem dX7_readNumber_0 : decode cX7_readNumber 0 = .ok (.aload_n 0, 1) := by decide +kernel
theorem dX7_readNumber_1 : decode cX7_readNumber 1 = .ok (.getfield 28, 3) := by decide +kernel
theorem dX7_readNumber_4 : decode cX7_readNumber 4 = .ok (.aload_n 1, 1) := by decide +kernel
theorem dX7_readNumber_5 : decode cX7_readNumber 5 = .ok (.getfield 45, 3) := by decide +kernel
theorem dX7_readNumber_8 : decode cX7_readNumber 8 = .ok (.if_icmp .ge 58, 3) := by decide +kernel
theorem dX7_readNumber_11 : decode cX7_readNumber 11 = .ok (.aload_n 1, 1) := by decide +kernel
theorem dX7_readNumber_12 : decode cX7_readNumber 12 = .ok (.aload_n 0, 1) := by decide +kernel
theorem dX7_readNumber_13 : decode cX7_readNumber 13 = .ok (.getfield 28, 3) := by decide +kernel
theorem dX7_readNumber_16 : decode cX7_readNumber 16 = .ok (.invokevirtual 50, 3) := by decide +kernel
theorem dX7_readNumber_19 : decode cX7_readNumber 19 = .ok (.invokestatic 61, 3) := by decide +kernel
theorem dX7_readNumber_22 : decode cX7_readNumber 22 = .ok (.ifCond .eq 44, 3) := by decide +kernel
theorem dX7_readNumber_25 : decode cX7_readNumber 25 = .ok (.aload_n 0, 1) := by decide +kernel
theorem dX7_readNumber_26 : decode cX7_readNumber 26 = .ok (.bipush 100, 2) := by decide +kernel
theorem dX7_readNumber_28 : decode cX7_readNumber 28 = .ok (.aload_n 0, 1) := by decide +kernel
theorem dX7_readNumber_29 : decode cX7_readNumber 29 = .ok (.getfield 31, 3) := by decide +kernel
theorem dX7_readNumber_32 : decode cX7_readNumber 32 = .ok (.bipush 10, 2) := by decide +kernel
theorem dX7_readNumber_34 : decode cX7_readNumber 34 = .ok (.imul, 1) := by decide +kernel
theorem dX7_readNumber_35 : decode cX7_readNumber 35 = .ok (.aload_n 1, 1) := by decide +kernel
theorem dX7_readNumber_36 : decode cX7_readNumber 36 = .ok (.aload_n 0, 1) := by decide +kernel
theorem dX7_readNumber_37 : decode cX7_readNumber 37 = .ok (.getfield 28, 3) := by decide +kernel
theorem dX7_readNumber_40 : decode cX7_readNumber 40 = .ok (.invokevirtual 50, 3) := by decide +kernel
theorem dX7_readNumber_43 : decode cX7_readNumber 43 = .ok (.iadd, 1) := by decide +kernel
theorem dX7_readNumber_44 : decode cX7_readNumber 44 = .ok (.bipush 48, 2) := by decide +kernel
theorem dX7_readNumber_46 : decode cX7_readNumber 46 = .ok (.isub, 1) := by decide +kernel
theorem dX7_readNumber_47 : decode cX7_readNumber 47 = .ok (.invokestatic 91, 3) := by decide +kernel
theorem dX7_readNumber_50 : decode cX7_readNumber 50 = .ok (.putfield 31, 3) := by decide +kernel
theorem dX7_readNumber_53 : decode cX7_readNumber 53 = .ok (.aload_n 0, 1) := by decide +kernel
theorem dX7_readNumber_54 : decode cX7_readNumber 54 = .ok (.dup, 1) := by decide +kernel
theorem dX7_readNumber_55 : decode cX7_readNumber 55 = .ok (.getfield 28, 3) := by decide +kernel
theorem dX7_readNumber_58 : decode cX7_readNumber 58 = .ok (.iconst 1, 1) := by decide +kernel
theorem dX7_readNumber_59 : decode cX7_readNumber 59 = .ok (.iadd, 1) := by decide +kernel
theorem dX7_readNumber_60 : decode cX7_readNumber 60 = .ok (.putfield 28, 3) := by decide +kernel
theorem dX7_readNumber_63 : decode cX7_readNumber 63 = .ok (.goto (-63), 3) := by decide +kernel
theorem dX7_readNumber_66 : decode cX7_readNumber 66 = .ok (.aload_n 1, 1) := by decide +kernel
theorem dX7_readNumber_67 : decode cX7_readNumber 67 = .ok (.aload_n 0, 1) := by decide +kernel
theorem dX7_readNumber_68 : decode cX7_readNumber 68 = .ok (.getfield 38, 3) := by decide +kernel
theorem dX7_readNumber_71 : decode cX7_readNumber 71 = .ok (.invokevirtual 50, 3) := by decide +kernel
theorem dX7_readNumber_74 : decode cX7_readNumber 74 = .ok (.bipush 48, 2) := by decide +kernel
theorem dX7_readNumber_76 : decode cX7_readNumber 76 = .ok (.if_icmp .ne 20, 3) := by decide +kernel
theorem dX7_readNumber_79 : decode cX7_readNumber 79 = .ok (.aload_n 0, 1) := by decide +kernel
theorem dX7_readNumber_80 : decode cX7_readNumber 80 = .ok (.getfield 28, 3) := by decide +kernel
theorem dX7_readNumber_83 : decode cX7_readNumber 83 = .ok (.aload_n 0, 1) := by decide +kernel
theorem dX7_readNumber_84 : decode cX7_readNumber 84 = .ok (.getfield 38, 3) := by decide +kernel
theorem dX7_readNumber_87 : decode cX7_readNumber 87 = .ok (.isub, 1) := by decide +kernel
theorem dX7_readNumber_88 : decode cX7_readNumber 88 = .ok (.iconst 1, 1) := by decide +kernel
theorem dX7_readNumber_89 : decode cX7_readNumber 89 = .ok (.if_icmp .le 7, 3) := by decide +kernel
theorem dX7_readNumber_92 : decode cX7_readNumber 92 = .ok (.iconst 1, 1) := by decide +kernel
theorem dX7_readNumber_93 : decode cX7_readNumber 93 = .ok (.goto 4, 3) := by decide +kernel
theorem dX7_readNumber_96 : decode cX7_readNumber 96 = .ok (.iconst 0, 1) := by decide +kernel
theorem dX7_readNumber_97 : decode cX7_readNumber 97 = .ok (.istore_n 2, 1) := by decide +kernel
theorem dX7_readNumber_98 : decode cX7_readNumber 98 = .ok (.aload_n 0, 1) := by decide +kernel
theorem dX7_readNumber_99 : decode cX7_readNumber 99 = .ok (.getfield 31, 3) := by decide +kernel
theorem dX7_readNumber_102 : decode cX7_readNumber 102 = .ok (.bipush 99, 2) := by decide +kernel
theorem dX7_readNumber_104 : decode cX7_readNumber 104 = .ok (.if_icmp .gt 7, 3) := by decide +kernel
theorem dX7_readNumber_107 : decode cX7_readNumber 107 = .ok (.iload_n 2, 1) := by decide +kernel
theorem dX7_readNumber_108 : decode cX7_readNumber 108 = .ok (.ifCond .eq 7, 3) := by decide +kernel
theorem dX7_readNumber_111 : decode cX7_readNumber 111 = .ok (.iconst 1, 1) := by decide +kernel
theorem dX7_readNumber_112 : decode cX7_readNumber 112 = .ok (.goto 4, 3) := by decide +kernel
theorem dX7_readNumber_115 : decode cX7_readNumber 115 = .ok (.iconst 3, 1) := by decide +kernel
theorem dX7_readNumber_116 : decode cX7_readNumber 116 = .ok (.ireturn, 1) := by decide +kernel
set_option maxRecDepth 20000 in
theorem ggX7_spells_J0_length_8abf5 : GoodIn wsX7_spells wsJ0_length_8abf5 := goodIn_r _ [7, 8, 9, 10, 11, 6, 12, 13, 14] (by decide +kernel) (by decide +kernel)
set_option maxRecDepth 20000 in
theorem gX7_spells_J0_length_8abf5 : GoodIn wsX7_spells (wsV RX7 97 RJ0 yJ0_length_8abf5 wsJ0_length_8abf5) := goodIn_app (goodIn_of _ (by decide +kernel)) ggX7_spells_J0_length_8abf5
set_option maxRecDepth 20000 in
theorem ggX7_spells_J0_charAt_5068e : GoodIn wsX7_spells wsJ0_charAt_5068e := goodIn_r _ [18, 8, 19, 20, 21, 6, 22, 13, 14, 23, 24, 25, 26, 27, 28, 29, 30, 31, 32, 33, 34, 35, 36, 37, 38, 39, 40, 41, 42, 43, 44, 45, 46, 47, 48, 49, 50, 51] (by decide +kernel) (by decide +kernel)
set_option maxRecDepth 20000 in
theorem gX7_spells_J0_charAt_5068e : GoodIn wsX7_spells (wsV RX7 101 RJ0 yJ0_charAt_5068e wsJ0_charAt_5068e) := goodIn_app (goodIn_of _ (by decide +kernel)) ggX7_spells_J0_charAt_5068e
set_option maxRecDepth 20000 in
theorem ggX7_spells_X6_byteAt : GoodIn wsX7_spells wsX6_byteAt := goodIn_r _ [56, 57, 58, 67, 68] (by decide +kernel) (by decide +kernel)
set_option maxRecDepth 20000 in
theorem gX7_spells_X6_byteAt : GoodIn wsX7_spells (wsV RX7 50 RX6 yX6_byteAt wsX6_byteAt) := goodIn_app (goodIn_of _ (by decide +kernel)) ggX7_spells_X6_byteAt
theorem dX7_spells_0 : decode cX7_spells 0 = .ok (.aload_n 2, 1) := by decide +kernel
theorem dX7_spells_1 : decode cX7_spells 1 = .ok (.invokevirtual 97, 3) := by decide +kernel
theorem dX7_spells_4 : decode cX7_spells 4 = .ok (.aload_n 0, 1) := by decide +kernel
theorem dX7_spells_5 : decode cX7_spells 5 = .ok (.getfield 28, 3) := by decide +kernel
theorem dX7_spells_8 : decode cX7_spells 8 = .ok (.aload_n 0, 1) := by decide +kernel
theorem dX7_spells_9 : decode cX7_spells 9 = .ok (.getfield 38, 3) := by decide +kernel
theorem dX7_spells_12 : decode cX7_spells 12 = .ok (.isub, 1) := by decide +kernel
theorem dX7_spells_13 : decode cX7_spells 13 = .ok (.if_icmp .eq 5, 3) := by decide +kernel
theorem dX7_spells_16 : decode cX7_spells 16 = .ok (.iconst 0, 1) := by decide +kernel
theorem dX7_spells_17 : decode cX7_spells 17 = .ok (.ireturn, 1) := by decide +kernel
theorem dX7_spells_18 : decode cX7_spells 18 = .ok (.iconst 0, 1) := by decide +kernel
theorem dX7_spells_19 : decode cX7_spells 19 = .ok (.istore_n 3, 1) := by decide +kernel
theorem dX7_spells_20 : decode cX7_spells 20 = .ok (.iload_n 3, 1) := by decide +kernel
theorem dX7_spells_21 : decode cX7_spells 21 = .ok (.aload_n 2, 1) := by decide +kernel
theorem dX7_spells_22 : decode cX7_spells 22 = .ok (.invokevirtual 97, 3) := by decide +kernel
theorem dX7_spells_25 : decode cX7_spells 25 = .ok (.if_icmp .ge 29, 3) := by decide +kernel
theorem dX7_spells_28 : decode cX7_spells 28 = .ok (.aload_n 2, 1) := by decide +kernel
theorem dX7_spells_29 : decode cX7_spells 29 = .ok (.iload_n 3, 1) := by decide +kernel
theorem dX7_spells_30 : decode cX7_spells 30 = .ok (.invokevirtual 101, 3) := by decide +kernel
theorem dX7_spells_33 : decode cX7_spells 33 = .ok (.aload_n 1, 1) := by decide +kernel
theorem dX7_spells_34 : decode cX7_spells 34 = .ok (.aload_n 0, 1) := by decide +kernel
theorem dX7_spells_35 : decode cX7_spells 35 = .ok (.getfield 38, 3) := by decide +kernel
theorem dX7_spells_38 : decode cX7_spells 38 = .ok (.iload_n 3, 1) := by decide +kernel
theorem dX7_spells_39 : decode cX7_spells 39 = .ok (.iadd, 1) := by decide +kernel
theorem dX7_spells_40 : decode cX7_spells 40 = .ok (.invokevirtual 50, 3) := by decide +kernel
theorem dX7_spells_43 : decode cX7_spells 43 = .ok (.if_icmp .eq 5, 3) := by decide +kernel
theorem dX7_spells_46 : decode cX7_spells 46 = .ok (.iconst 0, 1) := by decide +kernel
theorem dX7_spells_47 : decode cX7_spells 47 = .ok (.ireturn, 1) := by decide +kernel
theorem dX7_spells_48 : decode cX7_spells 48 = .ok (.iinc 3 1, 3) := by decide +kernel
theorem dX7_spells_51 : decode cX7_spells 51 = .ok (.goto (-31), 3) := by decide +kernel
theorem dX7_spells_54 : decode cX7_spells 54 = .ok (.iconst 1, 1) := by decide +kernel
theorem dX7_spells_55 : decode cX7_spells 55 = .ok (.ireturn, 1) := by decide +kernel
theorem dX7_isLetter_0 : decode cX7_isLetter 0 = .ok (.iload_n 0, 1) := by decide +kernel
theorem dX7_isLetter_1 : decode cX7_isLetter 1 = .ok (.bipush 97, 2) := by decide +kernel
theorem dX7_isLetter_3 : decode cX7_isLetter 3 = .ok (.if_icmp .lt 13, 3) := by decide +kernel
theorem dX7_isLetter_6 : decode cX7_isLetter 6 = .ok (.iload_n 0, 1) := by decide +kernel
theorem dX7_isLetter_7 : decode cX7_isLetter 7 = .ok (.bipush 122, 2) := by decide +kernel
theorem dX7_isLetter_9 : decode cX7_isLetter 9 = .ok (.if_icmp .gt 7, 3) := by decide +kernel
theorem dX7_isLetter_12 : decode cX7_isLetter 12 = .ok (.iconst 1, 1) := by decide +kernel
theorem dX7_isLetter_13 : decode cX7_isLetter 13 = .ok (.goto 4, 3) := by decide +kernel
theorem dX7_isLetter_16 : decode cX7_isLetter 16 = .ok (.iconst 0, 1) := by decide +kernel
theorem dX7_isLetter_17 : decode cX7_isLetter 17 = .ok (.ireturn, 1) := by decide +kernel
theorem dX7_isDigit_0 : decode cX7_isDigit 0 = .ok (.iload_n 0, 1) := by decide +kernel
theorem dX7_isDigit_1 : decode cX7_isDigit 1 = .ok (.bipush 48, 2) := by decide +kernel
theorem dX7_isDigit_3 : decode cX7_isDigit 3 = .ok (.if_icmp .lt 13, 3) := by decide +kernel
theorem dX7_isDigit_6 : decode cX7_isDigit 6 = .ok (.iload_n 0, 1) := by decide +kernel
theorem dX7_isDigit_7 : decode cX7_isDigit 7 = .ok (.bipush 57, 2) := by decide +kernel
theorem dX7_isDigit_9 : decode cX7_isDigit 9 = .ok (.if_icmp .gt 7, 3) := by decide +kernel
theorem dX7_isDigit_12 : decode cX7_isDigit 12 = .ok (.iconst 1, 1) := by decide +kernel
theorem dX7_isDigit_13 : decode cX7_isDigit 13 = .ok (.goto 4, 3) := by decide +kernel
theorem dX7_isDigit_16 : decode cX7_isDigit 16 = .ok (.iconst 0, 1) := by decide +kernel
theorem dX7_isDigit_17 : decode cX7_isDigit 17 = .ok (.ireturn, 1) := by decide +kernel
theorem dX8_init_0 : decode cX8_init 0 = .ok (.aload_n 0, 1) := by decide +kernel
theorem dX8_init_1 : decode cX8_init 1 = .ok (.invokespecial 3, 3) := by decide +kernel
theorem dX8_init_4 : decode cX8_init 4 = .ok (.aload_n 0, 1) := by decide +kernel
theorem dX8_init_5 : decode cX8_init 5 = .ok (.bipush 8, 2) := by decide +kernel
theorem dX8_init_7 : decode cX8_init 7 = .ok (.newarray .int, 2) := by decide +kernel
theorem dX8_init_9 : decode cX8_init 9 = .ok (.putfield 9, 3) := by decide +kernel
theorem dX8_init_12 : decode cX8_init 12 = .ok (.aload_n 0, 1) := by decide +kernel
theorem dX8_init_13 : decode cX8_init 13 = .ok (.bipush 8, 2) := by decide +kernel
theorem dX8_init_15 : decode cX8_init 15 = .ok (.newarray .int, 2) := by decide +kernel
theorem dX8_init_17 : decode cX8_init 17 = .ok (.putfield 15, 3) := by decide +kernel
theorem dX8_init_20 : decode cX8_init 20 = .ok (.aload_n 0, 1) := by decide +kernel
theorem dX8_init_21 : decode cX8_init 21 = .ok (.bipush 8, 2) := by decide +kernel
theorem dX8_init_23 : decode cX8_init 23 = .ok (.newarray .int, 2) := by decide +kernel
theorem dX8_init_25 : decode cX8_init 25 = .ok (.putfield 18, 3) := by decide +kernel
theorem dX8_init_28 : decode cX8_init 28 = .ok (.aload_n 0, 1) := by decide +kernel
theorem dX8_init_29 : decode cX8_init 29 = .ok (.bipush 8, 2) := by decide +kernel
theorem dX8_init_31 : decode cX8_init 31 = .ok (.newarray .int, 2) := by decide +kernel
theorem dX8_init_33 : decode cX8_init 33 = .ok (.putfield 21, 3) := by decide +kernel
theorem dX8_init_36 : decode cX8_init 36 = .ok (.aload_n 0, 1) := by decide +kernel
theorem dX8_init_37 : decode cX8_init 37 = .ok (.iconst 4, 1) := by decide +kernel
theorem dX8_init_38 : decode cX8_init 38 = .ok (.newarray .int, 2) := by decide +kernel
theorem dX8_init_40 : decode cX8_init 40 = .ok (.putfield 24, 3) := by decide +kernel
theorem dX8_init_43 : decode cX8_init 43 = .ok (.aload_n 0, 1) := by decide +kernel
theorem dX8_init_44 : decode cX8_init 44 = .ok (.iconst 4, 1) := by decide +kernel
theorem dX8_init_45 : decode cX8_init 45 = .ok (.newarray .int, 2) := by decide +kernel
theorem dX8_init_47 : decode cX8_init 47 = .ok (.putfield 27, 3) := by decide +kernel
theorem dX8_init_50 : decode cX8_init 50 = .ok (.return_, 1) := by decide +kernel
theorem dX8_raze_0 : decode cX8_raze 0 = .ok (.aload_n 0, 1) := by decide +kernel
theorem dX8_raze_1 : decode cX8_raze 1 = .ok (.iconst 0, 1) := by decide +kernel
theorem dX8_raze_2 : decode cX8_raze 2 = .ok (.putfield 30, 3) := by decide +kernel
theorem dX8_raze_5 : decode cX8_raze 5 = .ok (.aload_n 0, 1) := by decide +kernel
theorem dX8_raze_6 : decode cX8_raze 6 = .ok (.iconst 0, 1) := by decide +kernel
theorem dX8_raze_7 : decode cX8_raze 7 = .ok (.putfield 34, 3) := by decide +kernel
theorem dX8_raze_10 : decode cX8_raze 10 = .ok (.aload_n 0, 1) := by decide +kernel
theorem dX8_raze_11 : decode cX8_raze 11 = .ok (.iconst 0, 1) := by decide +kernel
theorem dX8_raze_12 : decode cX8_raze 12 = .ok (.putfield 37, 3) := by decide +kernel
theorem dX8_raze_15 : decode cX8_raze 15 = .ok (.aload_n 0, 1) := by decide +kernel
theorem dX8_raze_16 : decode cX8_raze 16 = .ok (.iconst 0, 1) := by decide +kernel
theorem dX8_raze_17 : decode cX8_raze 17 = .ok (.putfield 40, 3) := by decide +kernel
theorem dX8_raze_20 : decode cX8_raze 20 = .ok (.return_, 1) := by decide +kernel
theorem dX8_addSort_0 : decode cX8_addSort 0 = .ok (.aload_n 0, 1) := by decide +kernel
theorem dX8_addSort_1 : decode cX8_addSort 1 = .ok (.getfield 34, 3) := by decide +kernel
theorem dX8_addSort_4 : decode cX8_addSort 4 = .ok (.iconst 4, 1) := by decide +kernel
theorem dX8_addSort_5 : decode cX8_addSort 5 = .ok (.if_icmp .ge 33, 3) := by decide +kernel
theorem dX8_addSort_8 : decode cX8_addSort 8 = .ok (.aload_n 0, 1) := by decide +kernel
theorem dX8_addSort_9 : decode cX8_addSort 9 = .ok (.getfield 24, 3) := by decide +kernel
theorem dX8_addSort_12 : decode cX8_addSort 12 = .ok (.aload_n 0, 1) := by decide +kernel
theorem dX8_addSort_13 : decode cX8_addSort 13 = .ok (.getfield 34, 3) := by decide +kernel
theorem dX8_addSort_16 : decode cX8_addSort 16 = .ok (.iload_n 1, 1) := by decide +kernel
theorem dX8_addSort_17 : decode cX8_addSort 17 = .ok (.iastore, 1) := by decide +kernel
theorem dX8_addSort_18 : decode cX8_addSort 18 = .ok (.aload_n 0, 1) := by decide +kernel
theorem dX8_addSort_19 : decode cX8_addSort 19 = .ok (.getfield 27, 3) := by decide +kernel
theorem dX8_addSort_22 : decode cX8_addSort 22 = .ok (.aload_n 0, 1) := by decide +kernel
theorem dX8_addSort_23 : decode cX8_addSort 23 = .ok (.getfield 34, 3) := by decide +kernel
theorem dX8_addSort_26 : decode cX8_addSort 26 = .ok (.iload_n 2, 1) := by decide +kernel
theorem dX8_addSort_27 : decode cX8_addSort 27 = .ok (.iastore, 1) := by decide +kernel
theorem dX8_addSort_28 : decode cX8_addSort 28 = .ok (.aload_n 0, 1) := by decide +kernel
theorem dX8_addSort_29 : decode cX8_addSort 29 = .ok (.dup, 1) := by decide +kernel
theorem dX8_addSort_30 : decode cX8_addSort 30 = .ok (.getfield 34, 3) := by decide +kernel
theorem dX8_addSort_33 : decode cX8_addSort 33 = .ok (.iconst 1, 1) := by decide +kernel
theorem dX8_addSort_34 : decode cX8_addSort 34 = .ok (.iadd, 1) := by decide +kernel
theorem dX8_addSort_35 : decode cX8_addSort 35 = .ok (.putfield 34, 3) := by decide +kernel
theorem dX8_addSort_38 : decode cX8_addSort 38 = .ok (.return_, 1) := by decide +kernel
theorem dX8_addHouse_0 : decode cX8_addHouse 0 = .ok (.aload_n 0, 1) := by decide +kernel
theorem dX8_addHouse_1 : decode cX8_addHouse 1 = .ok (.getfield 30, 3) := by decide +kernel
theorem dX8_addHouse_4 : decode cX8_addHouse 4 = .ok (.bipush 8, 2) := by decide +kernel
theorem dX8_addHouse_6 : decode cX8_addHouse 6 = .ok (.if_icmp .ge 55, 3) := by decide +kernel
theorem dX8_addHouse_9 : decode cX8_addHouse 9 = .ok (.aload_n 0, 1) := by decide +kernel
theorem dX8_addHouse_10 : decode cX8_addHouse 10 = .ok (.getfield 9, 3) := by decide +kernel
theorem dX8_addHouse_13 : decode cX8_addHouse 13 = .ok (.aload_n 0, 1) := by decide +kernel
theorem dX8_addHouse_14 : decode cX8_addHouse 14 = .ok (.getfield 30, 3) := by decide +kernel
theorem dX8_addHouse_17 : decode cX8_addHouse 17 = .ok (.iload_n 1, 1) := by decide +kernel
theorem dX8_addHouse_18 : decode cX8_addHouse 18 = .ok (.iastore, 1) := by decide +kernel
theorem dX8_addHouse_19 : decode cX8_addHouse 19 = .ok (.aload_n 0, 1) := by decide +kernel
theorem dX8_addHouse_20 : decode cX8_addHouse 20 = .ok (.getfield 15, 3) := by decide +kernel
theorem dX8_addHouse_23 : decode cX8_addHouse 23 = .ok (.aload_n 0, 1) := by decide +kernel
theorem dX8_addHouse_24 : decode cX8_addHouse 24 = .ok (.getfield 30, 3) := by decide +kernel
theorem dX8_addHouse_27 : decode cX8_addHouse 27 = .ok (.iload_n 2, 1) := by decide +kernel
theorem dX8_addHouse_28 : decode cX8_addHouse 28 = .ok (.iastore, 1) := by decide +kernel
theorem dX8_addHouse_29 : decode cX8_addHouse 29 = .ok (.aload_n 0, 1) := by decide +kernel
theorem dX8_addHouse_30 : decode cX8_addHouse 30 = .ok (.getfield 18, 3) := by decide +kernel
theorem dX8_addHouse_33 : decode cX8_addHouse 33 = .ok (.aload_n 0, 1) := by decide +kernel
theorem dX8_addHouse_34 : decode cX8_addHouse 34 = .ok (.getfield 30, 3) := by decide +kernel
theorem dX8_addHouse_37 : decode cX8_addHouse 37 = .ok (.bipush (-9), 2) := by decide +kernel
theorem dX8_addHouse_39 : decode cX8_addHouse 39 = .ok (.iastore, 1) := by decide +kernel
theorem dX8_addHouse_40 : decode cX8_addHouse 40 = .ok (.aload_n 0, 1) := by decide +kernel
theorem dX8_addHouse_41 : decode cX8_addHouse 41 = .ok (.getfield 21, 3) := by decide +kernel
theorem dX8_addHouse_44 : decode cX8_addHouse 44 = .ok (.aload_n 0, 1) := by decide +kernel
theorem dX8_addHouse_45 : decode cX8_addHouse 45 = .ok (.getfield 30, 3) := by decide +kernel
theorem dX8_addHouse_48 : decode cX8_addHouse 48 = .ok (.bipush (-9), 2) := by decide +kernel
theorem dX8_addHouse_50 : decode cX8_addHouse 50 = .ok (.iastore, 1) := by decide +kernel
theorem dX8_addHouse_51 : decode cX8_addHouse 51 = .ok (.aload_n 0, 1) := by decide +kernel
theorem dX8_addHouse_52 : decode cX8_addHouse 52 = .ok (.dup, 1) := by decide +kernel
theorem dX8_addHouse_53 : decode cX8_addHouse 53 = .ok (.getfield 30, 3) := by decide +kernel
theorem dX8_addHouse_56 : decode cX8_addHouse 56 = .ok (.iconst 1, 1) := by decide +kernel
theorem dX8_addHouse_57 : decode cX8_addHouse 57 = .ok (.iadd, 1) := by decide +kernel
theorem dX8_addHouse_58 : decode cX8_addHouse 58 = .ok (.putfield 30, 3) := by decide +kernel
theorem dX8_addHouse_61 : decode cX8_addHouse 61 = .ok (.return_, 1) := by decide +kernel
theorem dX8_hasHouse_0 : decode cX8_hasHouse 0 = .ok (.iload_n 1, 1) := by decide +kernel
theorem dX8_hasHouse_1 : decode cX8_hasHouse 1 = .ok (.ifCond .lt 15, 3) := by decide +kernel
theorem dX8_hasHouse_4 : decode cX8_hasHouse 4 = .ok (.iload_n 1, 1) := by decide +kernel
theorem dX8_hasHouse_5 : decode cX8_hasHouse 5 = .ok (.aload_n 0, 1) := by decide +kernel
theorem dX8_hasHouse_6 : decode cX8_hasHouse 6 = .ok (.getfield 30, 3) := by decide +kernel
theorem dX8_hasHouse_9 : decode cX8_hasHouse 9 = .ok (.if_icmp .ge 7, 3) := by decide +kernel
theorem dX8_hasHouse_12 : decode cX8_hasHouse 12 = .ok (.iconst 1, 1) := by decide +kernel
theorem dX8_hasHouse_13 : decode cX8_hasHouse 13 = .ok (.goto 4, 3) := by decide +kernel
theorem dX8_hasHouse_16 : decode cX8_hasHouse 16 = .ok (.iconst 0, 1) := by decide +kernel
theorem dX8_hasHouse_17 : decode cX8_hasHouse 17 = .ok (.ireturn, 1) := by decide +kernel
theorem dX8_hasSort_0 : decode cX8_hasSort 0 = .ok (.iload_n 1, 1) := by decide +kernel
theorem dX8_hasSort_1 : decode cX8_hasSort 1 = .ok (.ifCond .lt 15, 3) := by decide +kernel
theorem dX8_hasSort_4 : decode cX8_hasSort 4 = .ok (.iload_n 1, 1) := by decide +kernel
theorem dX8_hasSort_5 : decode cX8_hasSort 5 = .ok (.aload_n 0, 1) := by decide +kernel
theorem dX8_hasSort_6 : decode cX8_hasSort 6 = .ok (.getfield 34, 3) := by decide +kernel
theorem dX8_hasSort_9 : decode cX8_hasSort 9 = .ok (.if_icmp .ge 7, 3) := by decide +kernel
theorem dX8_hasSort_12 : decode cX8_hasSort 12 = .ok (.iconst 1, 1) := by decide +kernel
theorem dX8_hasSort_13 : decode cX8_hasSort 13 = .ok (.goto 4, 3) := by decide +kernel
theorem dX8_hasSort_16 : decode cX8_hasSort 16 = .ok (.iconst 0, 1) := by decide +kernel
theorem dX8_hasSort_17 : decode cX8_hasSort 17 = .ok (.ireturn, 1) := by decide +kernel
set_option maxRecDepth 20000 in
theorem ggX8_priceOf_X8_hasSort : GoodIn wsX8_priceOf wsX8_hasSort := goodIn_r _ [6, 7, 8, 9, 10, 11, 12, 13, 14, 15, 16, 17] (by decide +kernel) (by decide +kernel)
set_option maxRecDepth 20000 in
theorem gX8_priceOf_X8_hasSort : GoodIn wsX8_priceOf (wsV RX8 44 RX8 yX8_hasSort wsX8_hasSort) := goodIn_app (goodIn_of _ (by decide +kernel)) ggX8_priceOf_X8_hasSort
theorem dX8_priceOf_0 : decode cX8_priceOf 0 = .ok (.aload_n 0, 1) := by decide +kernel
theorem dX8_priceOf_1 : decode cX8_priceOf 1 = .ok (.iload_n 1, 1) := by decide +kernel
theorem dX8_priceOf_2 : decode cX8_priceOf 2 = .ok (.invokevirtual 44, 3) := by decide +kernel
theorem dX8_priceOf_5 : decode cX8_priceOf 5 = .ok (.ifCond .eq 12, 3) := by decide +kernel
theorem dX8_priceOf_8 : decode cX8_priceOf 8 = .ok (.aload_n 0, 1) := by decide +kernel
theorem dX8_priceOf_9 : decode cX8_priceOf 9 = .ok (.getfield 24, 3) := by decide +kernel
theorem dX8_priceOf_12 : decode cX8_priceOf 12 = .ok (.iload_n 1, 1) := by decide +kernel
theorem dX8_priceOf_13 : decode cX8_priceOf 13 = .ok (.iaload, 1) := by decide +kernel
theorem dX8_priceOf_14 : decode cX8_priceOf 14 = .ok (.goto 4, 3) := by decide +kernel
theorem dX8_priceOf_17 : decode cX8_priceOf 17 = .ok (.iconst 0, 1) := by decide +kernel
theorem dX8_priceOf_18 : decode cX8_priceOf 18 = .ok (.ireturn, 1) := by decide +kernel
set_option maxRecDepth 20000 in
theorem ggX8_burnOf_X8_hasSort : GoodIn wsX8_burnOf wsX8_hasSort := goodIn_r _ [6, 7, 8, 9, 10, 11, 12, 13, 14, 15, 16, 17] (by decide +kernel) (by decide +kernel)
set_option maxRecDepth 20000 in
theorem gX8_burnOf_X8_hasSort : GoodIn wsX8_burnOf (wsV RX8 44 RX8 yX8_hasSort wsX8_hasSort) := goodIn_app (goodIn_of _ (by decide +kernel)) ggX8_burnOf_X8_hasSort
theorem dX8_burnOf_0 : decode cX8_burnOf 0 = .ok (.aload_n 0, 1) := by decide +kernel
theorem dX8_burnOf_1 : decode cX8_burnOf 1 = .ok (.iload_n 1, 1) := by decide +kernel
theorem dX8_burnOf_2 : decode cX8_burnOf 2 = .ok (.invokevirtual 44, 3) := by decide +kernel
theorem dX8_burnOf_5 : decode cX8_burnOf 5 = .ok (.ifCond .eq 12, 3) := by decide +kernel
theorem dX8_burnOf_8 : decode cX8_burnOf 8 = .ok (.aload_n 0, 1) := by decide +kernel
theorem dX8_burnOf_9 : decode cX8_burnOf 9 = .ok (.getfield 27, 3) := by decide +kernel
theorem dX8_burnOf_12 : decode cX8_burnOf 12 = .ok (.iload_n 1, 1) := by decide +kernel
theorem dX8_burnOf_13 : decode cX8_burnOf 13 = .ok (.iaload, 1) := by decide +kernel
theorem dX8_burnOf_14 : decode cX8_burnOf 14 = .ok (.goto 4, 3) := by decide +kernel
theorem dX8_burnOf_17 : decode cX8_burnOf 17 = .ok (.iconst 0, 1) := by decide +kernel
theorem dX8_burnOf_18 : decode cX8_burnOf 18 = .ok (.ireturn, 1) := by decide +kernel
set_option maxRecDepth 20000 in
theorem ggX8_isBoundElse_X8_hasHouse : GoodIn wsX8_isBoundElse wsX8_hasHouse := goodIn_r _ [6, 7, 8, 9, 10, 11, 12, 13, 14, 15, 16, 17] (by decide +kernel) (by decide +kernel)
set_option maxRecDepth 20000 in
theorem gX8_isBoundElse_X8_hasHouse : GoodIn wsX8_isBoundElse (wsV RX8 48 RX8 yX8_hasHouse wsX8_hasHouse) := goodIn_app (goodIn_of _ (by decide +kernel)) ggX8_isBoundElse_X8_hasHouse
theorem dX8_isBoundElse_0 : decode cX8_isBoundElse 0 = .ok (.aload_n 0, 1) := by decide +kernel
theorem dX8_isBoundElse_1 : decode cX8_isBoundElse 1 = .ok (.iload_n 1, 1) := by decide +kernel
theorem dX8_isBoundElse_2 : decode cX8_isBoundElse 2 = .ok (.invokevirtual 48, 3) := by decide +kernel
theorem dX8_isBoundElse_5 : decode cX8_isBoundElse 5 = .ok (.ifCond .eq 28, 3) := by decide +kernel
theorem dX8_isBoundElse_8 : decode cX8_isBoundElse 8 = .ok (.aload_n 0, 1) := by decide +kernel
theorem dX8_isBoundElse_9 : decode cX8_isBoundElse 9 = .ok (.getfield 21, 3) := by decide +kernel
theorem dX8_isBoundElse_12 : decode cX8_isBoundElse 12 = .ok (.iload_n 1, 1) := by decide +kernel
theorem dX8_isBoundElse_13 : decode cX8_isBoundElse 13 = .ok (.iaload, 1) := by decide +kernel
theorem dX8_isBoundElse_14 : decode cX8_isBoundElse 14 = .ok (.bipush (-9), 2) := by decide +kernel
theorem dX8_isBoundElse_16 : decode cX8_isBoundElse 16 = .ok (.if_icmp .eq 17, 3) := by decide +kernel
theorem dX8_isBoundElse_19 : decode cX8_isBoundElse 19 = .ok (.aload_n 0, 1) := by decide +kernel
theorem dX8_isBoundElse_20 : decode cX8_isBoundElse 20 = .ok (.getfield 21, 3) := by decide +kernel
theorem dX8_isBoundElse_23 : decode cX8_isBoundElse 23 = .ok (.iload_n 1, 1) := by decide +kernel
theorem dX8_isBoundElse_24 : decode cX8_isBoundElse 24 = .ok (.iaload, 1) := by decide +kernel
theorem dX8_isBoundElse_25 : decode cX8_isBoundElse 25 = .ok (.iload_n 2, 1) := by decide +kernel
theorem dX8_isBoundElse_26 : decode cX8_isBoundElse 26 = .ok (.if_icmp .eq 7, 3) := by decide +kernel
theorem dX8_isBoundElse_29 : decode cX8_isBoundElse 29 = .ok (.iconst 1, 1) := by decide +kernel
theorem dX8_isBoundElse_30 : decode cX8_isBoundElse 30 = .ok (.goto 4, 3) := by decide +kernel
theorem dX8_isBoundElse_33 : decode cX8_isBoundElse 33 = .ok (.iconst 0, 1) := by decide +kernel
theorem dX8_isBoundElse_34 : decode cX8_isBoundElse 34 = .ok (.ireturn, 1) := by decide +kernel
set_option maxRecDepth 20000 in
theorem ggX8_canBurn_X8_hasHouse : GoodIn wsX8_canBurn wsX8_hasHouse := goodIn_r _ [6, 7, 18, 19, 20, 21, 22, 23, 24, 25, 26, 27] (by decide +kernel) (by decide +kernel)
set_option maxRecDepth 20000 in
theorem gX8_canBurn_X8_hasHouse : GoodIn wsX8_canBurn (wsV RX8 48 RX8 yX8_hasHouse wsX8_hasHouse) := goodIn_app (goodIn_of _ (by decide +kernel)) ggX8_canBurn_X8_hasHouse
set_option maxRecDepth 20000 in
theorem ggX8_canBurn_X8_burnOf : GoodIn wsX8_canBurn wsX8_burnOf := goodIn_r _ [11, 12, 13, 14, 15, 5, 16, 17, 18, 19, 20, 21, 22, 23, 24, 25, 26, 27] (by decide +kernel) (by decide +kernel)
set_option maxRecDepth 20000 in
theorem gX8_canBurn_X8_burnOf : GoodIn wsX8_canBurn (wsV RX8 51 RX8 yX8_burnOf wsX8_burnOf) := goodIn_app (goodIn_of _ (by decide +kernel)) ggX8_canBurn_X8_burnOf
theorem dX8_canBurn_0 : decode cX8_canBurn 0 = .ok (.aload_n 0, 1) := by decide +kernel
theorem dX8_canBurn_1 : decode cX8_canBurn 1 = .ok (.iload_n 1, 1) := by decide +kernel
theorem dX8_canBurn_2 : decode cX8_canBurn 2 = .ok (.invokevirtual 48, 3) := by decide +kernel
theorem dX8_canBurn_5 : decode cX8_canBurn 5 = .ok (.ifCond .eq 20, 3) := by decide +kernel
theorem dX8_canBurn_8 : decode cX8_canBurn 8 = .ok (.aload_n 0, 1) := by decide +kernel
theorem dX8_canBurn_9 : decode cX8_canBurn 9 = .ok (.aload_n 0, 1) := by decide +kernel
theorem dX8_canBurn_10 : decode cX8_canBurn 10 = .ok (.getfield 18, 3) := by decide +kernel
theorem dX8_canBurn_13 : decode cX8_canBurn 13 = .ok (.iload_n 1, 1) := by decide +kernel
theorem dX8_canBurn_14 : decode cX8_canBurn 14 = .ok (.iaload, 1) := by decide +kernel
theorem dX8_canBurn_15 : decode cX8_canBurn 15 = .ok (.invokevirtual 51, 3) := by decide +kernel
theorem dX8_canBurn_18 : decode cX8_canBurn 18 = .ok (.ifCond .le 7, 3) := by decide +kernel
theorem dX8_canBurn_21 : decode cX8_canBurn 21 = .ok (.iconst 1, 1) := by decide +kernel
theorem dX8_canBurn_22 : decode cX8_canBurn 22 = .ok (.goto 4, 3) := by decide +kernel
theorem dX8_canBurn_25 : decode cX8_canBurn 25 = .ok (.iconst 0, 1) := by decide +kernel
theorem dX8_canBurn_26 : decode cX8_canBurn 26 = .ok (.ireturn, 1) := by decide +kernel
set_option maxRecDepth 20000 in
theorem ggX8_howManyRoofs_X8_roofedWith : GoodIn wsX8_howManyRoofs wsX8_roofedWith := goodIn_r _ [6, 1, 7, 15, 16, 17, 18, 19, 20, 21, 22, 23, 24] (by decide +kernel) (by decide +kernel)
set_option maxRecDepth 20000 in
theorem gX8_howManyRoofs_X8_roofedWith : GoodIn wsX8_howManyRoofs (wsV RX8 55 RX8 yX8_roofedWith wsX8_roofedWith) := goodIn_app (goodIn_of _ (by decide +kernel)) ggX8_howManyRoofs_X8_roofedWith
set_option maxRecDepth 20000 in
theorem ggX8_howManyRoofs_J6_bitCount_0f7a4 : GoodIn wsX8_howManyRoofs wsJ6_bitCount_0f7a4 := goodIn_r _ [11, 12, 13, 14] (by decide +kernel) (by decide +kernel)
set_option maxRecDepth 20000 in
theorem gX8_howManyRoofs_J6_bitCount_0f7a4 : GoodIn wsX8_howManyRoofs (va_wsS RX8 58 yJ6_bitCount_0f7a4 wsJ6_bitCount_0f7a4) := goodIn_app (goodIn_of _ (by decide +kernel)) ggX8_howManyRoofs_J6_bitCount_0f7a4
theorem dX8_howManyRoofs_0 : decode cX8_howManyRoofs 0 = .ok (.aload_n 0, 1) := by decide +kernel
theorem dX8_howManyRoofs_1 : decode cX8_howManyRoofs 1 = .ok (.getfield 30, 3) := by decide +kernel
theorem dX8_howManyRoofs_4 : decode cX8_howManyRoofs 4 = .ok (.aload_n 0, 1) := by decide +kernel
theorem dX8_howManyRoofs_5 : decode cX8_howManyRoofs 5 = .ok (.bipush (-9), 2) := by decide +kernel
theorem dX8_howManyRoofs_7 : decode cX8_howManyRoofs 7 = .ok (.invokevirtual 55, 3) := by decide +kernel
theorem dX8_howManyRoofs_10 : decode cX8_howManyRoofs 10 = .ok (.invokestatic 58, 3) := by decide +kernel
theorem dX8_howManyRoofs_13 : decode cX8_howManyRoofs 13 = .ok (.isub, 1) := by decide +kernel
theorem dX8_howManyRoofs_14 : decode cX8_howManyRoofs 14 = .ok (.ireturn, 1) := by decide +kernel
theorem dX8_roofedWith_0 : decode cX8_roofedWith 0 = .ok (.iconst 0, 1) := by decide +kernel
theorem dX8_roofedWith_1 : decode cX8_roofedWith 1 = .ok (.istore_n 2, 1) := by decide +kernel
theorem dX8_roofedWith_2 : decode cX8_roofedWith 2 = .ok (.iconst 0, 1) := by decide +kernel
theorem dX8_roofedWith_3 : decode cX8_roofedWith 3 = .ok (.istore_n 3, 1) := by decide +kernel
theorem dX8_roofedWith_4 : decode cX8_roofedWith 4 = .ok (.iload_n 3, 1) := by decide +kernel
theorem dX8_roofedWith_5 : decode cX8_roofedWith 5 = .ok (.aload_n 0, 1) := by decide +kernel
theorem dX8_roofedWith_6 : decode cX8_roofedWith 6 = .ok (.getfield 30, 3) := by decide +kernel
theorem dX8_roofedWith_9 : decode cX8_roofedWith 9 = .ok (.if_icmp .ge 25, 3) := by decide +kernel
theorem dX8_roofedWith_12 : decode cX8_roofedWith 12 = .ok (.aload_n 0, 1) := by decide +kernel
theorem dX8_roofedWith_13 : decode cX8_roofedWith 13 = .ok (.getfield 18, 3) := by decide +kernel
theorem dX8_roofedWith_16 : decode cX8_roofedWith 16 = .ok (.iload_n 3, 1) := by decide +kernel
theorem dX8_roofedWith_17 : decode cX8_roofedWith 17 = .ok (.iaload, 1) := by decide +kernel
theorem dX8_roofedWith_18 : decode cX8_roofedWith 18 = .ok (.iload_n 1, 1) := by decide +kernel
theorem dX8_roofedWith_19 : decode cX8_roofedWith 19 = .ok (.if_icmp .ne 9, 3) := by decide +kernel
theorem dX8_roofedWith_22 : decode cX8_roofedWith 22 = .ok (.iload_n 2, 1) := by decide +kernel
theorem dX8_roofedWith_23 : decode cX8_roofedWith 23 = .ok (.iconst 1, 1) := by decide +kernel
theorem dX8_roofedWith_24 : decode cX8_roofedWith 24 = .ok (.iload_n 3, 1) := by decide +kernel
theorem dX8_roofedWith_25 : decode cX8_roofedWith 25 = .ok (.ishl, 1) := by decide +kernel
theorem dX8_roofedWith_26 : decode cX8_roofedWith 26 = .ok (.ior, 1) := by decide +kernel
theorem dX8_roofedWith_27 : decode cX8_roofedWith 27 = .ok (.istore_n 2, 1) := by decide +kernel
theorem dX8_roofedWith_28 : decode cX8_roofedWith 28 = .ok (.iinc 3 1, 3) := by decide +kernel
theorem dX8_roofedWith_31 : decode cX8_roofedWith 31 = .ok (.goto (-27), 3) := by decide +kernel
theorem dX8_roofedWith_34 : decode cX8_roofedWith 34 = .ok (.iload_n 2, 1) := by decide +kernel
theorem dX8_roofedWith_35 : decode cX8_roofedWith 35 = .ok (.ireturn, 1) := by decide +kernel
theorem dX8_bitAt_0 : decode cX8_bitAt 0 = .ok (.iconst 0, 1) := by decide +kernel
theorem dX8_bitAt_1 : decode cX8_bitAt 1 = .ok (.istore_n 3, 1) := by decide +kernel
theorem dX8_bitAt_2 : decode cX8_bitAt 2 = .ok (.iload_n 3, 1) := by decide +kernel
theorem dX8_bitAt_3 : decode cX8_bitAt 3 = .ok (.aload_n 0, 1) := by decide +kernel
theorem dX8_bitAt_4 : decode cX8_bitAt 4 = .ok (.getfield 30, 3) := by decide +kernel
theorem dX8_bitAt_7 : decode cX8_bitAt 7 = .ok (.if_icmp .ge 33, 3) := by decide +kernel
theorem dX8_bitAt_10 : decode cX8_bitAt 10 = .ok (.aload_n 0, 1) := by decide +kernel
theorem dX8_bitAt_11 : decode cX8_bitAt 11 = .ok (.getfield 9, 3) := by decide +kernel
theorem dX8_bitAt_14 : decode cX8_bitAt 14 = .ok (.iload_n 3, 1) := by decide +kernel
theorem dX8_bitAt_15 : decode cX8_bitAt 15 = .ok (.iaload, 1) := by decide +kernel
theorem dX8_bitAt_16 : decode cX8_bitAt 16 = .ok (.iload_n 1, 1) := by decide +kernel
theorem dX8_bitAt_17 : decode cX8_bitAt 17 = .ok (.if_icmp .ne 17, 3) := by decide +kernel
theorem dX8_bitAt_20 : decode cX8_bitAt 20 = .ok (.aload_n 0, 1) := by decide +kernel
theorem dX8_bitAt_21 : decode cX8_bitAt 21 = .ok (.getfield 15, 3) := by decide +kernel
theorem dX8_bitAt_24 : decode cX8_bitAt 24 = .ok (.iload_n 3, 1) := by decide +kernel
theorem dX8_bitAt_25 : decode cX8_bitAt 25 = .ok (.iaload, 1) := by decide +kernel
theorem dX8_bitAt_26 : decode cX8_bitAt 26 = .ok (.iload_n 2, 1) := by decide +kernel
theorem dX8_bitAt_27 : decode cX8_bitAt 27 = .ok (.if_icmp .ne 7, 3) := by decide +kernel
theorem dX8_bitAt_30 : decode cX8_bitAt 30 = .ok (.iconst 1, 1) := by decide +kernel
theorem dX8_bitAt_31 : decode cX8_bitAt 31 = .ok (.iload_n 3, 1) := by decide +kernel
theorem dX8_bitAt_32 : decode cX8_bitAt 32 = .ok (.ishl, 1) := by decide +kernel
theorem dX8_bitAt_33 : decode cX8_bitAt 33 = .ok (.ireturn, 1) := by decide +kernel
theorem dX8_bitAt_34 : decode cX8_bitAt 34 = .ok (.iinc 3 1, 3) := by decide +kernel
theorem dX8_bitAt_37 : decode cX8_bitAt 37 = .ok (.goto (-35), 3) := by decide +kernel
theorem dX8_bitAt_40 : decode cX8_bitAt 40 = .ok (.iconst 0, 1) := by decide +kernel
theorem dX8_bitAt_41 : decode cX8_bitAt 41 = .ok (.ireturn, 1) := by decide +kernel
set_option maxRecDepth 20000 in
theorem ggX8_touched_X8_around : GoodIn wsX8_touched wsX8_around := goodIn_r _ [5, 6, 7, 8, 9, 10, 11, 12, 13, 14, 15, 4, 16, 17, 18, 19, 20, 21, 22, 23, 24, 25, 26] (by decide +kernel) (by decide +kernel)
set_option maxRecDepth 20000 in
theorem gX8_touched_X8_around : GoodIn wsX8_touched (wsV RX8 63 RX8 yX8_around wsX8_around) := goodIn_app (goodIn_of _ (by decide +kernel)) ggX8_touched_X8_around
theorem dX8_touched_0 : decode cX8_touched 0 = .ok (.aload_n 0, 1) := by decide +kernel
theorem dX8_touched_1 : decode cX8_touched 1 = .ok (.iload_n 1, 1) := by decide +kernel
theorem dX8_touched_2 : decode cX8_touched 2 = .ok (.iconst 1, 1) := by decide +kernel
theorem dX8_touched_3 : decode cX8_touched 3 = .ok (.invokevirtual 63, 3) := by decide +kernel
theorem dX8_touched_6 : decode cX8_touched 6 = .ok (.ireturn, 1) := by decide +kernel
set_option maxRecDepth 20000 in
theorem ggX8_sparked_X8_hasHouse : GoodIn wsX8_sparked wsX8_hasHouse := goodIn_r _ [7, 8, 13, 14, 15, 16, 17, 18, 19, 20, 21, 22] (by decide +kernel) (by decide +kernel)
set_option maxRecDepth 20000 in
theorem gX8_sparked_X8_hasHouse : GoodIn wsX8_sparked (wsV RX8 48 RX8 yX8_hasHouse wsX8_hasHouse) := goodIn_app (goodIn_of _ (by decide +kernel)) ggX8_sparked_X8_hasHouse
set_option maxRecDepth 20000 in
theorem ggX8_sparked_X8_bitAt : GoodIn wsX8_sparked wsX8_bitAt := goodIn_r _ [12, 8, 1, 2, 13, 14, 15, 16, 17, 18, 19, 20, 21, 22] (by decide +kernel) (by decide +kernel)
set_option maxRecDepth 20000 in
theorem gX8_sparked_X8_bitAt : GoodIn wsX8_sparked (wsV RX8 73 RX8 yX8_bitAt wsX8_bitAt) := goodIn_app (goodIn_of _ (by decide +kernel)) ggX8_sparked_X8_bitAt
theorem dX8_sparked_0 : decode cX8_sparked 0 = .ok (.aload_n 0, 1) := by decide +kernel
theorem dX8_sparked_1 : decode cX8_sparked 1 = .ok (.iload_n 1, 1) := by decide +kernel
theorem dX8_sparked_2 : decode cX8_sparked 2 = .ok (.invokevirtual 48, 3) := by decide +kernel
theorem dX8_sparked_5 : decode cX8_sparked 5 = .ok (.ifCond .eq 13, 3) := by decide +kernel
theorem dX8_sparked_8 : decode cX8_sparked 8 = .ok (.iload_n 2, 1) := by decide +kernel
theorem dX8_sparked_9 : decode cX8_sparked 9 = .ok (.iconst 1, 1) := by decide +kernel
theorem dX8_sparked_10 : decode cX8_sparked 10 = .ok (.if_icmp .lt 8, 3) := by decide +kernel
theorem dX8_sparked_13 : decode cX8_sparked 13 = .ok (.iload_n 2, 1) := by decide +kernel
theorem dX8_sparked_14 : decode cX8_sparked 14 = .ok (.iconst 4, 1) := by decide +kernel
theorem dX8_sparked_15 : decode cX8_sparked 15 = .ok (.if_icmp .le 5, 3) := by decide +kernel
theorem dX8_sparked_18 : decode cX8_sparked 18 = .ok (.iconst 0, 1) := by decide +kernel
theorem dX8_sparked_19 : decode cX8_sparked 19 = .ok (.ireturn, 1) := by decide +kernel
theorem dX8_sparked_20 : decode cX8_sparked 20 = .ok (.aload_n 0, 1) := by decide +kernel
theorem dX8_sparked_21 : decode cX8_sparked 21 = .ok (.aload_n 0, 1) := by decide +kernel
theorem dX8_sparked_22 : decode cX8_sparked 22 = .ok (.getfield 9, 3) := by decide +kernel
theorem dX8_sparked_25 : decode cX8_sparked 25 = .ok (.iload_n 1, 1) := by decide +kernel
theorem dX8_sparked_26 : decode cX8_sparked 26 = .ok (.iaload, 1) := by decide +kernel
theorem dX8_sparked_27 : decode cX8_sparked 27 = .ok (.iconst 2, 1) := by decide +kernel
theorem dX8_sparked_28 : decode cX8_sparked 28 = .ok (.getstatic 67, 3) := by decide +kernel
theorem dX8_sparked_31 : decode cX8_sparked 31 = .ok (.iload_n 2, 1) := by decide +kernel
theorem dX8_sparked_32 : decode cX8_sparked 32 = .ok (.iaload, 1) := by decide +kernel
theorem dX8_sparked_33 : decode cX8_sparked 33 = .ok (.imul, 1) := by decide +kernel
theorem dX8_sparked_34 : decode cX8_sparked 34 = .ok (.iadd, 1) := by decide +kernel
theorem dX8_sparked_35 : decode cX8_sparked 35 = .ok (.aload_n 0, 1) := by decide +kernel
theorem dX8_sparked_36 : decode cX8_sparked 36 = .ok (.getfield 15, 3) := by decide +kernel
theorem dX8_sparked_39 : decode cX8_sparked 39 = .ok (.iload_n 1, 1) := by decide +kernel
theorem dX8_sparked_40 : decode cX8_sparked 40 = .ok (.iaload, 1) := by decide +kernel
theorem dX8_sparked_41 : decode cX8_sparked 41 = .ok (.iconst 2, 1) := by decide +kernel
theorem dX8_sparked_42 : decode cX8_sparked 42 = .ok (.getstatic 70, 3) := by decide +kernel
theorem dX8_sparked_45 : decode cX8_sparked 45 = .ok (.iload_n 2, 1) := by decide +kernel
theorem dX8_sparked_46 : decode cX8_sparked 46 = .ok (.iaload, 1) := by decide +kernel
theorem dX8_sparked_47 : decode cX8_sparked 47 = .ok (.imul, 1) := by decide +kernel
theorem dX8_sparked_48 : decode cX8_sparked 48 = .ok (.iadd, 1) := by decide +kernel
theorem dX8_sparked_49 : decode cX8_sparked 49 = .ok (.invokevirtual 73, 3) := by decide +kernel
theorem dX8_sparked_52 : decode cX8_sparked 52 = .ok (.ireturn, 1) := by decide +kernel
set_option maxRecDepth 20000 in
theorem ggX8_near_X8_around : GoodIn wsX8_near wsX8_around := goodIn_r _ [5, 6, 7, 8, 9, 10, 11, 12, 13, 14, 15, 4, 16, 17, 18, 19, 20, 21, 22, 23, 24, 25, 26] (by decide +kernel) (by decide +kernel)
set_option maxRecDepth 20000 in
theorem gX8_near_X8_around : GoodIn wsX8_near (wsV RX8 63 RX8 yX8_around wsX8_around) := goodIn_app (goodIn_of _ (by decide +kernel)) ggX8_near_X8_around
theorem dX8_near_0 : decode cX8_near 0 = .ok (.iload_n 2, 1) := by decide +kernel
theorem dX8_near_1 : decode cX8_near 1 = .ok (.iconst 1, 1) := by decide +kernel
theorem dX8_near_2 : decode cX8_near 2 = .ok (.if_icmp .ne 19, 3) := by decide +kernel
theorem dX8_near_5 : decode cX8_near 5 = .ok (.aload_n 0, 1) := by decide +kernel
theorem dX8_near_6 : decode cX8_near 6 = .ok (.iload_n 1, 1) := by decide +kernel
theorem dX8_near_7 : decode cX8_near 7 = .ok (.iconst 1, 1) := by decide +kernel
theorem dX8_near_8 : decode cX8_near 8 = .ok (.invokevirtual 63, 3) := by decide +kernel
theorem dX8_near_11 : decode cX8_near 11 = .ok (.aload_n 0, 1) := by decide +kernel
theorem dX8_near_12 : decode cX8_near 12 = .ok (.iload_n 1, 1) := by decide +kernel
theorem dX8_near_13 : decode cX8_near 13 = .ok (.iconst 2, 1) := by decide +kernel
theorem dX8_near_14 : decode cX8_near 14 = .ok (.invokevirtual 63, 3) := by decide +kernel
theorem dX8_near_17 : decode cX8_near 17 = .ok (.ior, 1) := by decide +kernel
theorem dX8_near_18 : decode cX8_near 18 = .ok (.goto 9, 3) := by decide +kernel
theorem dX8_near_21 : decode cX8_near 21 = .ok (.aload_n 0, 1) := by decide +kernel
theorem dX8_near_22 : decode cX8_near 22 = .ok (.iload_n 1, 1) := by decide +kernel
theorem dX8_near_23 : decode cX8_near 23 = .ok (.iconst 1, 1) := by decide +kernel
theorem dX8_near_24 : decode cX8_near 24 = .ok (.invokevirtual 63, 3) := by decide +kernel
theorem dX8_near_27 : decode cX8_near 27 = .ok (.ireturn, 1) := by decide +kernel
set_option maxRecDepth 20000 in
theorem ggX8_around_X8_hasHouse : GoodIn wsX8_around wsX8_hasHouse := goodIn_r _ [12, 1, 13, 14, 15, 16, 17, 18, 19, 20, 21, 22] (by decide +kernel) (by decide +kernel)
set_option maxRecDepth 20000 in
theorem gX8_around_X8_hasHouse : GoodIn wsX8_around (wsV RX8 48 RX8 yX8_hasHouse wsX8_hasHouse) := goodIn_app (goodIn_of _ (by decide +kernel)) ggX8_around_X8_hasHouse
theorem dX8_around_0 : decode cX8_around 0 = .ok (.aload_n 0, 1) := by decide +kernel
theorem dX8_around_1 : decode cX8_around 1 = .ok (.iload_n 1, 1) := by decide +kernel
theorem dX8_around_2 : decode cX8_around 2 = .ok (.invokevirtual 48, 3) := by decide +kernel
theorem dX8_around_5 : decode cX8_around 5 = .ok (.ifCond .ne 5, 3) := by decide +kernel
theorem dX8_around_8 : decode cX8_around 8 = .ok (.iconst 0, 1) := by decide +kernel
theorem dX8_around_9 : decode cX8_around 9 = .ok (.ireturn, 1) := by decide +kernel
theorem dX8_around_10 : decode cX8_around 10 = .ok (.iconst 0, 1) := by decide +kernel
theorem dX8_around_11 : decode cX8_around 11 = .ok (.istore_n 3, 1) := by decide +kernel
theorem dX8_around_12 : decode cX8_around 12 = .ok (.iconst 0, 1) := by decide +kernel
theorem dX8_around_13 : decode cX8_around 13 = .ok (.istore 4, 2) := by decide +kernel
theorem dX8_around_15 : decode cX8_around 15 = .ok (.iload 4, 2) := by decide +kernel
theorem dX8_around_17 : decode cX8_around 17 = .ok (.aload_n 0, 1) := by decide +kernel
theorem dX8_around_18 : decode cX8_around 18 = .ok (.getfield 30, 3) := by decide +kernel
theorem dX8_around_21 : decode cX8_around 21 = .ok (.if_icmp .ge 73, 3) := by decide +kernel
theorem dX8_around_24 : decode cX8_around 24 = .ok (.aload_n 0, 1) := by decide +kernel
theorem dX8_around_25 : decode cX8_around 25 = .ok (.getfield 9, 3) := by decide +kernel
theorem dX8_around_28 : decode cX8_around 28 = .ok (.iload 4, 2) := by decide +kernel
theorem dX8_around_30 : decode cX8_around 30 = .ok (.iaload, 1) := by decide +kernel
theorem dX8_around_31 : decode cX8_around 31 = .ok (.aload_n 0, 1) := by decide +kernel
theorem dX8_around_32 : decode cX8_around 32 = .ok (.getfield 9, 3) := by decide +kernel
theorem dX8_around_35 : decode cX8_around 35 = .ok (.iload_n 1, 1) := by decide +kernel
theorem dX8_around_36 : decode cX8_around 36 = .ok (.iaload, 1) := by decide +kernel
theorem dX8_around_37 : decode cX8_around 37 = .ok (.isub, 1) := by decide +kernel
theorem dX8_around_38 : decode cX8_around 38 = .ok (.invokestatic 76, 3) := by decide +kernel
theorem dX8_around_41 : decode cX8_around 41 = .ok (.istore 5, 2) := by decide +kernel
theorem dX8_around_43 : decode cX8_around 43 = .ok (.aload_n 0, 1) := by decide +kernel
theorem dX8_around_44 : decode cX8_around 44 = .ok (.getfield 15, 3) := by decide +kernel
theorem dX8_around_47 : decode cX8_around 47 = .ok (.iload 4, 2) := by decide +kernel
theorem dX8_around_49 : decode cX8_around 49 = .ok (.iaload, 1) := by decide +kernel
theorem dX8_around_50 : decode cX8_around 50 = .ok (.aload_n 0, 1) := by decide +kernel
theorem dX8_around_51 : decode cX8_around 51 = .ok (.getfield 15, 3) := by decide +kernel
theorem dX8_around_54 : decode cX8_around 54 = .ok (.iload_n 1, 1) := by decide +kernel
theorem dX8_around_55 : decode cX8_around 55 = .ok (.iaload, 1) := by decide +kernel
theorem dX8_around_56 : decode cX8_around 56 = .ok (.isub, 1) := by decide +kernel
theorem dX8_around_57 : decode cX8_around 57 = .ok (.invokestatic 76, 3) := by decide +kernel
theorem dX8_around_60 : decode cX8_around 60 = .ok (.istore 6, 2) := by decide +kernel
theorem dX8_around_62 : decode cX8_around 62 = .ok (.iload 5, 2) := by decide +kernel
theorem dX8_around_64 : decode cX8_around 64 = .ok (.iload 6, 2) := by decide +kernel
theorem dX8_around_66 : decode cX8_around 66 = .ok (.iadd, 1) := by decide +kernel
theorem dX8_around_67 : decode cX8_around 67 = .ok (.iload_n 2, 1) := by decide +kernel
theorem dX8_around_68 : decode cX8_around 68 = .ok (.if_icmp .ne 20, 3) := by decide +kernel
theorem dX8_around_71 : decode cX8_around 71 = .ok (.iload 5, 2) := by decide +kernel
theorem dX8_around_73 : decode cX8_around 73 = .ok (.ifCond .eq 8, 3) := by decide +kernel
theorem dX8_around_76 : decode cX8_around 76 = .ok (.iload 6, 2) := by decide +kernel
theorem dX8_around_78 : decode cX8_around 78 = .ok (.ifCond .ne 10, 3) := by decide +kernel
theorem dX8_around_81 : decode cX8_around 81 = .ok (.iload_n 3, 1) := by decide +kernel
theorem dX8_around_82 : decode cX8_around 82 = .ok (.iconst 1, 1) := by decide +kernel
theorem dX8_around_83 : decode cX8_around 83 = .ok (.iload 4, 2) := by decide +kernel
theorem dX8_around_85 : decode cX8_around 85 = .ok (.ishl, 1) := by decide +kernel
theorem dX8_around_86 : decode cX8_around 86 = .ok (.ior, 1) := by decide +kernel
theorem dX8_around_87 : decode cX8_around 87 = .ok (.istore_n 3, 1) := by decide +kernel
theorem dX8_around_88 : decode cX8_around 88 = .ok (.iinc 4 1, 3) := by decide +kernel
theorem dX8_around_91 : decode cX8_around 91 = .ok (.goto (-76), 3) := by decide +kernel
theorem dX8_around_94 : decode cX8_around 94 = .ok (.iload_n 3, 1) := by decide +kernel
theorem dX8_around_95 : decode cX8_around 95 = .ok (.ireturn, 1) := by decide +kernel
set_option maxRecDepth 20000 in
theorem ggX8_pairsThatTouch_X8_touched : GoodIn wsX8_pairsThatTouch wsX8_touched := goodIn_r _ [6, 7, 8, 9, 5, 10, 1, 11, 12, 13, 14, 15, 16, 17, 18, 19, 20, 28, 29, 30, 31, 32, 33, 34, 35, 36, 37] (by decide +kernel) (by decide +kernel)
set_option maxRecDepth 20000 in
theorem gX8_pairsThatTouch_X8_touched : GoodIn wsX8_pairsThatTouch (wsV RX8 81 RX8 yX8_touched wsX8_touched) := goodIn_app (goodIn_of _ (by decide +kernel)) ggX8_pairsThatTouch_X8_touched
set_option maxRecDepth 20000 in
theorem ggX8_pairsThatTouch_J6_bitCount_0f7a4 : GoodIn wsX8_pairsThatTouch wsJ6_bitCount_0f7a4 := goodIn_r _ [24, 25, 26, 27] (by decide +kernel) (by decide +kernel)
set_option maxRecDepth 20000 in
theorem gX8_pairsThatTouch_J6_bitCount_0f7a4 : GoodIn wsX8_pairsThatTouch (va_wsS RX8 58 yJ6_bitCount_0f7a4 wsJ6_bitCount_0f7a4) := goodIn_app (goodIn_of _ (by decide +kernel)) ggX8_pairsThatTouch_J6_bitCount_0f7a4
theorem dX8_pairsThatTouch_0 : decode cX8_pairsThatTouch 0 = .ok (.iconst 0, 1) := by decide +kernel
theorem dX8_pairsThatTouch_1 : decode cX8_pairsThatTouch 1 = .ok (.istore_n 1, 1) := by decide +kernel
theorem dX8_pairsThatTouch_2 : decode cX8_pairsThatTouch 2 = .ok (.iconst 0, 1) := by decide +kernel
theorem dX8_pairsThatTouch_3 : decode cX8_pairsThatTouch 3 = .ok (.istore_n 2, 1) := by decide +kernel
theorem dX8_pairsThatTouch_4 : decode cX8_pairsThatTouch 4 = .ok (.iload_n 2, 1) := by decide +kernel
theorem dX8_pairsThatTouch_5 : decode cX8_pairsThatTouch 5 = .ok (.aload_n 0, 1) := by decide +kernel
theorem dX8_pairsThatTouch_6 : decode cX8_pairsThatTouch 6 = .ok (.getfield 30, 3) := by decide +kernel
theorem dX8_pairsThatTouch_9 : decode cX8_pairsThatTouch 9 = .ok (.if_icmp .ge 20, 3) := by decide +kernel
theorem dX8_pairsThatTouch_12 : decode cX8_pairsThatTouch 12 = .ok (.iload_n 1, 1) := by decide +kernel
theorem dX8_pairsThatTouch_13 : decode cX8_pairsThatTouch 13 = .ok (.aload_n 0, 1) := by decide +kernel
theorem dX8_pairsThatTouch_14 : decode cX8_pairsThatTouch 14 = .ok (.iload_n 2, 1) := by decide +kernel
theorem dX8_pairsThatTouch_15 : decode cX8_pairsThatTouch 15 = .ok (.invokevirtual 81, 3) := by decide +kernel
theorem dX8_pairsThatTouch_18 : decode cX8_pairsThatTouch 18 = .ok (.invokestatic 58, 3) := by decide +kernel
theorem dX8_pairsThatTouch_21 : decode cX8_pairsThatTouch 21 = .ok (.iadd, 1) := by decide +kernel
theorem dX8_pairsThatTouch_22 : decode cX8_pairsThatTouch 22 = .ok (.istore_n 1, 1) := by decide +kernel
theorem dX8_pairsThatTouch_23 : decode cX8_pairsThatTouch 23 = .ok (.iinc 2 1, 3) := by decide +kernel
theorem dX8_pairsThatTouch_26 : decode cX8_pairsThatTouch 26 = .ok (.goto (-22), 3) := by decide +kernel
theorem dX8_pairsThatTouch_29 : decode cX8_pairsThatTouch 29 = .ok (.iload_n 1, 1) := by decide +kernel
theorem dX8_pairsThatTouch_30 : decode cX8_pairsThatTouch 30 = .ok (.iconst 2, 1) := by decide +kernel
theorem dX8_pairsThatTouch_31 : decode cX8_pairsThatTouch 31 = .ok (.idiv, 1) := by decide +kernel
theorem dX8_pairsThatTouch_32 : decode cX8_pairsThatTouch 32 = .ok (.ireturn, 1) := by decide +kernel
set_option maxRecDepth 20000 in
theorem ggX8_unlawfulPairs_X8_near : GoodIn wsX8_unlawfulPairs wsX8_near := goodIn_r _ [7, 8, 9, 10, 6, 11, 1, 12, 13, 14, 15, 16, 17, 18, 19, 20, 21, 33, 34, 35, 36, 37, 38, 39, 40, 41, 42] (by decide +kernel) (by decide +kernel)
set_option maxRecDepth 20000 in
theorem gX8_unlawfulPairs_X8_near : GoodIn wsX8_unlawfulPairs (wsV RX8 84 RX8 yX8_near wsX8_near) := goodIn_app (goodIn_of _ (by decide +kernel)) ggX8_unlawfulPairs_X8_near
set_option maxRecDepth 20000 in
theorem ggX8_unlawfulPairs_X8_roofedWith : GoodIn wsX8_unlawfulPairs wsX8_roofedWith := goodIn_r _ [25, 1, 2, 33, 34, 35, 36, 37, 38, 39, 40, 41, 42] (by decide +kernel) (by decide +kernel)
set_option maxRecDepth 20000 in
theorem gX8_unlawfulPairs_X8_roofedWith : GoodIn wsX8_unlawfulPairs (wsV RX8 55 RX8 yX8_roofedWith wsX8_roofedWith) := goodIn_app (goodIn_of _ (by decide +kernel)) ggX8_unlawfulPairs_X8_roofedWith
set_option maxRecDepth 20000 in
theorem ggX8_unlawfulPairs_J6_bitCount_0f7a4 : GoodIn wsX8_unlawfulPairs wsJ6_bitCount_0f7a4 := goodIn_r _ [29, 30, 31, 32] (by decide +kernel) (by decide +kernel)
set_option maxRecDepth 20000 in
theorem gX8_unlawfulPairs_J6_bitCount_0f7a4 : GoodIn wsX8_unlawfulPairs (va_wsS RX8 58 yJ6_bitCount_0f7a4 wsJ6_bitCount_0f7a4) := goodIn_app (goodIn_of _ (by decide +kernel)) ggX8_unlawfulPairs_J6_bitCount_0f7a4
theorem dX8_unlawfulPairs_0 : decode cX8_unlawfulPairs 0 = .ok (.iconst 0, 1) := by decide +kernel
theorem dX8_unlawfulPairs_1 : decode cX8_unlawfulPairs 1 = .ok (.istore_n 2, 1) := by decide +kernel
theorem dX8_unlawfulPairs_2 : decode cX8_unlawfulPairs 2 = .ok (.iconst 0, 1) := by decide +kernel
theorem dX8_unlawfulPairs_3 : decode cX8_unlawfulPairs 3 = .ok (.istore_n 3, 1) := by decide +kernel
theorem dX8_unlawfulPairs_4 : decode cX8_unlawfulPairs 4 = .ok (.iload_n 3, 1) := by decide +kernel
theorem dX8_unlawfulPairs_5 : decode cX8_unlawfulPairs 5 = .ok (.aload_n 0, 1) := by decide +kernel
theorem dX8_unlawfulPairs_6 : decode cX8_unlawfulPairs 6 = .ok (.getfield 30, 3) := by decide +kernel
theorem dX8_unlawfulPairs_9 : decode cX8_unlawfulPairs 9 = .ok (.if_icmp .ge 43, 3) := by decide +kernel
theorem dX8_unlawfulPairs_12 : decode cX8_unlawfulPairs 12 = .ok (.aload_n 0, 1) := by decide +kernel
theorem dX8_unlawfulPairs_13 : decode cX8_unlawfulPairs 13 = .ok (.getfield 18, 3) := by decide +kernel
theorem dX8_unlawfulPairs_16 : decode cX8_unlawfulPairs 16 = .ok (.iload_n 3, 1) := by decide +kernel
theorem dX8_unlawfulPairs_17 : decode cX8_unlawfulPairs 17 = .ok (.iaload, 1) := by decide +kernel
theorem dX8_unlawfulPairs_18 : decode cX8_unlawfulPairs 18 = .ok (.bipush (-9), 2) := by decide +kernel
theorem dX8_unlawfulPairs_20 : decode cX8_unlawfulPairs 20 = .ok (.if_icmp .eq 26, 3) := by decide +kernel
theorem dX8_unlawfulPairs_23 : decode cX8_unlawfulPairs 23 = .ok (.iload_n 2, 1) := by decide +kernel
theorem dX8_unlawfulPairs_24 : decode cX8_unlawfulPairs 24 = .ok (.aload_n 0, 1) := by decide +kernel
theorem dX8_unlawfulPairs_25 : decode cX8_unlawfulPairs 25 = .ok (.iload_n 3, 1) := by decide +kernel
theorem dX8_unlawfulPairs_26 : decode cX8_unlawfulPairs 26 = .ok (.iload_n 1, 1) := by decide +kernel
theorem dX8_unlawfulPairs_27 : decode cX8_unlawfulPairs 27 = .ok (.invokevirtual 84, 3) := by decide +kernel
theorem dX8_unlawfulPairs_30 : decode cX8_unlawfulPairs 30 = .ok (.aload_n 0, 1) := by decide +kernel
theorem dX8_unlawfulPairs_31 : decode cX8_unlawfulPairs 31 = .ok (.aload_n 0, 1) := by decide +kernel
theorem dX8_unlawfulPairs_32 : decode cX8_unlawfulPairs 32 = .ok (.getfield 18, 3) := by decide +kernel
theorem dX8_unlawfulPairs_35 : decode cX8_unlawfulPairs 35 = .ok (.iload_n 3, 1) := by decide +kernel
theorem dX8_unlawfulPairs_36 : decode cX8_unlawfulPairs 36 = .ok (.iaload, 1) := by decide +kernel
theorem dX8_unlawfulPairs_37 : decode cX8_unlawfulPairs 37 = .ok (.invokevirtual 55, 3) := by decide +kernel
theorem dX8_unlawfulPairs_40 : decode cX8_unlawfulPairs 40 = .ok (.iand, 1) := by decide +kernel
theorem dX8_unlawfulPairs_41 : decode cX8_unlawfulPairs 41 = .ok (.invokestatic 58, 3) := by decide +kernel
theorem dX8_unlawfulPairs_44 : decode cX8_unlawfulPairs 44 = .ok (.iadd, 1) := by decide +kernel
theorem dX8_unlawfulPairs_45 : decode cX8_unlawfulPairs 45 = .ok (.istore_n 2, 1) := by decide +kernel
theorem dX8_unlawfulPairs_46 : decode cX8_unlawfulPairs 46 = .ok (.iinc 3 1, 3) := by decide +kernel
theorem dX8_unlawfulPairs_49 : decode cX8_unlawfulPairs 49 = .ok (.goto (-45), 3) := by decide +kernel
theorem dX8_unlawfulPairs_52 : decode cX8_unlawfulPairs 52 = .ok (.iload_n 2, 1) := by decide +kernel
theorem dX8_unlawfulPairs_53 : decode cX8_unlawfulPairs 53 = .ok (.iconst 2, 1) := by decide +kernel
theorem dX8_unlawfulPairs_54 : decode cX8_unlawfulPairs 54 = .ok (.idiv, 1) := by decide +kernel
theorem dX8_unlawfulPairs_55 : decode cX8_unlawfulPairs 55 = .ok (.ireturn, 1) := by decide +kernel
