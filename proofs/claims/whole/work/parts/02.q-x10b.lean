set_option maxRecDepth 20000 in
theorem ggX10_isHouse_X10_in : GoodIn wsX10_isHouse wsX10_in := goodIn_r _ [5] (by decide +kernel) (by decide +kernel)
set_option maxRecDepth 20000 in
theorem gX10_isHouse_X10_in : GoodIn wsX10_isHouse (va_wsS RX10 54 yX10_in wsX10_in) := goodIn_app (goodIn_of _ (by decide +kernel)) ggX10_isHouse_X10_in
theorem dX10_isHouse_0 : decode cX10_isHouse 0 = .ok (.iload_n 1, 1) := by decide +kernel
theorem dX10_isHouse_1 : decode cX10_isHouse 1 = .ok (.iconst 0, 1) := by decide +kernel
theorem dX10_isHouse_2 : decode cX10_isHouse 2 = .ok (.aload_n 0, 1) := by decide +kernel
theorem dX10_isHouse_3 : decode cX10_isHouse 3 = .ok (.getfield 138, 3) := by decide +kernel
theorem dX10_isHouse_6 : decode cX10_isHouse 6 = .ok (.iconst 1, 1) := by decide +kernel
theorem dX10_isHouse_7 : decode cX10_isHouse 7 = .ok (.isub, 1) := by decide +kernel
theorem dX10_isHouse_8 : decode cX10_isHouse 8 = .ok (.invokestatic 54, 3) := by decide +kernel
theorem dX10_isHouse_11 : decode cX10_isHouse 11 = .ok (.ireturn, 1) := by decide +kernel
set_option maxRecDepth 20000 in
theorem ggX10_isSort_X10_in : GoodIn wsX10_isSort wsX10_in := goodIn_r _ [5] (by decide +kernel) (by decide +kernel)
set_option maxRecDepth 20000 in
theorem gX10_isSort_X10_in : GoodIn wsX10_isSort (va_wsS RX10 54 yX10_in wsX10_in) := goodIn_app (goodIn_of _ (by decide +kernel)) ggX10_isSort_X10_in
theorem dX10_isSort_0 : decode cX10_isSort 0 = .ok (.iload_n 1, 1) := by decide +kernel
theorem dX10_isSort_1 : decode cX10_isSort 1 = .ok (.iconst 0, 1) := by decide +kernel
theorem dX10_isSort_2 : decode cX10_isSort 2 = .ok (.aload_n 0, 1) := by decide +kernel
theorem dX10_isSort_3 : decode cX10_isSort 3 = .ok (.getfield 135, 3) := by decide +kernel
theorem dX10_isSort_6 : decode cX10_isSort 6 = .ok (.iconst 1, 1) := by decide +kernel
theorem dX10_isSort_7 : decode cX10_isSort 7 = .ok (.isub, 1) := by decide +kernel
theorem dX10_isSort_8 : decode cX10_isSort 8 = .ok (.invokestatic 54, 3) := by decide +kernel
theorem dX10_isSort_11 : decode cX10_isSort 11 = .ok (.ireturn, 1) := by decide +kernel
theorem dX10_size_0 : decode cX10_size 0 = .ok (.iload_n 0, 1) := by decide +kernel
theorem dX10_size_1 : decode cX10_size 1 = .ok (.ifCond .ge 8, 3) := by decide +kernel
theorem dX10_size_4 : decode cX10_size 4 = .ok (.iload_n 0, 1) := by decide +kernel
theorem dX10_size_5 : decode cX10_size 5 = .ok (.ineg, 1) := by decide +kernel
theorem dX10_size_6 : decode cX10_size 6 = .ok (.goto 4, 3) := by decide +kernel
theorem dX10_size_9 : decode cX10_size 9 = .ok (.iload_n 0, 1) := by decide +kernel
theorem dX10_size_10 : decode cX10_size 10 = .ok (.ireturn, 1) := by decide +kernel
set_option maxRecDepth 20000 in
theorem ggX10_touch_X10_size : GoodIn wsX10_touch wsX10_size := goodIn_r _ [6] (by decide +kernel) (by decide +kernel)
set_option maxRecDepth 20000 in
theorem gX10_touch_X10_size : GoodIn wsX10_touch (va_wsS RX10 141 yX10_size wsX10_size) := goodIn_app (goodIn_of _ (by decide +kernel)) ggX10_touch_X10_size
theorem dX10_touch_0 : decode cX10_touch 0 = .ok (.aload_n 0, 1) := by decide +kernel
theorem dX10_touch_1 : decode cX10_touch 1 = .ok (.getfield 19, 3) := by decide +kernel
theorem dX10_touch_4 : decode cX10_touch 4 = .ok (.iload_n 1, 1) := by decide +kernel
theorem dX10_touch_5 : decode cX10_touch 5 = .ok (.iaload, 1) := by decide +kernel
theorem dX10_touch_6 : decode cX10_touch 6 = .ok (.aload_n 0, 1) := by decide +kernel
theorem dX10_touch_7 : decode cX10_touch 7 = .ok (.getfield 19, 3) := by decide +kernel
theorem dX10_touch_10 : decode cX10_touch 10 = .ok (.iload_n 2, 1) := by decide +kernel
theorem dX10_touch_11 : decode cX10_touch 11 = .ok (.iaload, 1) := by decide +kernel
theorem dX10_touch_12 : decode cX10_touch 12 = .ok (.isub, 1) := by decide +kernel
theorem dX10_touch_13 : decode cX10_touch 13 = .ok (.invokestatic 141, 3) := by decide +kernel
theorem dX10_touch_16 : decode cX10_touch 16 = .ok (.aload_n 0, 1) := by decide +kernel
theorem dX10_touch_17 : decode cX10_touch 17 = .ok (.getfield 22, 3) := by decide +kernel
theorem dX10_touch_20 : decode cX10_touch 20 = .ok (.iload_n 1, 1) := by decide +kernel
theorem dX10_touch_21 : decode cX10_touch 21 = .ok (.iaload, 1) := by decide +kernel
theorem dX10_touch_22 : decode cX10_touch 22 = .ok (.aload_n 0, 1) := by decide +kernel
theorem dX10_touch_23 : decode cX10_touch 23 = .ok (.getfield 22, 3) := by decide +kernel
theorem dX10_touch_26 : decode cX10_touch 26 = .ok (.iload_n 2, 1) := by decide +kernel
theorem dX10_touch_27 : decode cX10_touch 27 = .ok (.iaload, 1) := by decide +kernel
theorem dX10_touch_28 : decode cX10_touch 28 = .ok (.isub, 1) := by decide +kernel
theorem dX10_touch_29 : decode cX10_touch 29 = .ok (.invokestatic 141, 3) := by decide +kernel
theorem dX10_touch_32 : decode cX10_touch 32 = .ok (.iadd, 1) := by decide +kernel
theorem dX10_touch_33 : decode cX10_touch 33 = .ok (.iconst 1, 1) := by decide +kernel
theorem dX10_touch_34 : decode cX10_touch 34 = .ok (.if_icmp .ne 7, 3) := by decide +kernel
theorem dX10_touch_37 : decode cX10_touch 37 = .ok (.iconst 1, 1) := by decide +kernel
theorem dX10_touch_38 : decode cX10_touch 38 = .ok (.goto 4, 3) := by decide +kernel
theorem dX10_touch_41 : decode cX10_touch 41 = .ok (.iconst 0, 1) := by decide +kernel
theorem dX10_touch_42 : decode cX10_touch 42 = .ok (.ireturn, 1) := by decide +kernel
set_option maxRecDepth 20000 in
theorem ggX10_sparkle_X10_size : GoodIn wsX10_sparkle wsX10_size := goodIn_r _ [6] (by decide +kernel) (by decide +kernel)
set_option maxRecDepth 20000 in
theorem gX10_sparkle_X10_size : GoodIn wsX10_sparkle (va_wsS RX10 141 yX10_size wsX10_size) := goodIn_app (goodIn_of _ (by decide +kernel)) ggX10_sparkle_X10_size
theorem dX10_sparkle_0 : decode cX10_sparkle 0 = .ok (.aload_n 0, 1) := by decide +kernel
theorem dX10_sparkle_1 : decode cX10_sparkle 1 = .ok (.getfield 19, 3) := by decide +kernel
theorem dX10_sparkle_4 : decode cX10_sparkle 4 = .ok (.iload_n 1, 1) := by decide +kernel
theorem dX10_sparkle_5 : decode cX10_sparkle 5 = .ok (.iaload, 1) := by decide +kernel
theorem dX10_sparkle_6 : decode cX10_sparkle 6 = .ok (.aload_n 0, 1) := by decide +kernel
theorem dX10_sparkle_7 : decode cX10_sparkle 7 = .ok (.getfield 19, 3) := by decide +kernel
theorem dX10_sparkle_10 : decode cX10_sparkle 10 = .ok (.iload_n 2, 1) := by decide +kernel
theorem dX10_sparkle_11 : decode cX10_sparkle 11 = .ok (.iaload, 1) := by decide +kernel
theorem dX10_sparkle_12 : decode cX10_sparkle 12 = .ok (.if_icmp .ne 23, 3) := by decide +kernel
theorem dX10_sparkle_15 : decode cX10_sparkle 15 = .ok (.aload_n 0, 1) := by decide +kernel
theorem dX10_sparkle_16 : decode cX10_sparkle 16 = .ok (.getfield 22, 3) := by decide +kernel
theorem dX10_sparkle_19 : decode cX10_sparkle 19 = .ok (.iload_n 1, 1) := by decide +kernel
theorem dX10_sparkle_20 : decode cX10_sparkle 20 = .ok (.iaload, 1) := by decide +kernel
theorem dX10_sparkle_21 : decode cX10_sparkle 21 = .ok (.aload_n 0, 1) := by decide +kernel
theorem dX10_sparkle_22 : decode cX10_sparkle 22 = .ok (.getfield 22, 3) := by decide +kernel
theorem dX10_sparkle_25 : decode cX10_sparkle 25 = .ok (.iload_n 2, 1) := by decide +kernel
theorem dX10_sparkle_26 : decode cX10_sparkle 26 = .ok (.iaload, 1) := by decide +kernel
theorem dX10_sparkle_27 : decode cX10_sparkle 27 = .ok (.isub, 1) := by decide +kernel
theorem dX10_sparkle_28 : decode cX10_sparkle 28 = .ok (.invokestatic 141, 3) := by decide +kernel
theorem dX10_sparkle_31 : decode cX10_sparkle 31 = .ok (.iconst 2, 1) := by decide +kernel
theorem dX10_sparkle_32 : decode cX10_sparkle 32 = .ok (.if_icmp .eq 38, 3) := by decide +kernel
theorem dX10_sparkle_35 : decode cX10_sparkle 35 = .ok (.aload_n 0, 1) := by decide +kernel
theorem dX10_sparkle_36 : decode cX10_sparkle 36 = .ok (.getfield 22, 3) := by decide +kernel
theorem dX10_sparkle_39 : decode cX10_sparkle 39 = .ok (.iload_n 1, 1) := by decide +kernel
theorem dX10_sparkle_40 : decode cX10_sparkle 40 = .ok (.iaload, 1) := by decide +kernel
theorem dX10_sparkle_41 : decode cX10_sparkle 41 = .ok (.aload_n 0, 1) := by decide +kernel
theorem dX10_sparkle_42 : decode cX10_sparkle 42 = .ok (.getfield 22, 3) := by decide +kernel
theorem dX10_sparkle_45 : decode cX10_sparkle 45 = .ok (.iload_n 2, 1) := by decide +kernel
theorem dX10_sparkle_46 : decode cX10_sparkle 46 = .ok (.iaload, 1) := by decide +kernel
theorem dX10_sparkle_47 : decode cX10_sparkle 47 = .ok (.if_icmp .ne 27, 3) := by decide +kernel
theorem dX10_sparkle_50 : decode cX10_sparkle 50 = .ok (.aload_n 0, 1) := by decide +kernel
theorem dX10_sparkle_51 : decode cX10_sparkle 51 = .ok (.getfield 19, 3) := by decide +kernel
theorem dX10_sparkle_54 : decode cX10_sparkle 54 = .ok (.iload_n 1, 1) := by decide +kernel
theorem dX10_sparkle_55 : decode cX10_sparkle 55 = .ok (.iaload, 1) := by decide +kernel
theorem dX10_sparkle_56 : decode cX10_sparkle 56 = .ok (.aload_n 0, 1) := by decide +kernel
theorem dX10_sparkle_57 : decode cX10_sparkle 57 = .ok (.getfield 19, 3) := by decide +kernel
theorem dX10_sparkle_60 : decode cX10_sparkle 60 = .ok (.iload_n 2, 1) := by decide +kernel
theorem dX10_sparkle_61 : decode cX10_sparkle 61 = .ok (.iaload, 1) := by decide +kernel
theorem dX10_sparkle_62 : decode cX10_sparkle 62 = .ok (.isub, 1) := by decide +kernel
theorem dX10_sparkle_63 : decode cX10_sparkle 63 = .ok (.invokestatic 141, 3) := by decide +kernel
theorem dX10_sparkle_66 : decode cX10_sparkle 66 = .ok (.iconst 2, 1) := by decide +kernel
theorem dX10_sparkle_67 : decode cX10_sparkle 67 = .ok (.if_icmp .ne 7, 3) := by decide +kernel
theorem dX10_sparkle_70 : decode cX10_sparkle 70 = .ok (.iconst 1, 1) := by decide +kernel
theorem dX10_sparkle_71 : decode cX10_sparkle 71 = .ok (.goto 4, 3) := by decide +kernel
theorem dX10_sparkle_74 : decode cX10_sparkle 74 = .ok (.iconst 0, 1) := by decide +kernel
theorem dX10_sparkle_75 : decode cX10_sparkle 75 = .ok (.ireturn, 1) := by decide +kernel
set_option maxRecDepth 20000 in
theorem ggX10_touchesOf_X10_touch : GoodIn wsX10_touchesOf wsX10_touch := goodIn_r _ [6, 7, 8, 9, 10, 5, 11, 12, 13, 14, 15, 16, 17, 18, 19, 20, 21, 22, 23, 24, 25, 26, 27, 28, 29, 30, 31, 32, 33, 34, 35, 36, 37, 38, 39, 40, 41, 42] (by decide +kernel) (by decide +kernel)
set_option maxRecDepth 20000 in
theorem gX10_touchesOf_X10_touch : GoodIn wsX10_touchesOf (wsV RX10 144 RX10 yX10_touch wsX10_touch) := goodIn_app (goodIn_of _ (by decide +kernel)) ggX10_touchesOf_X10_touch
theorem dX10_touchesOf_0 : decode cX10_touchesOf 0 = .ok (.iconst 0, 1) := by decide +kernel
theorem dX10_touchesOf_1 : decode cX10_touchesOf 1 = .ok (.istore_n 2, 1) := by decide +kernel
theorem dX10_touchesOf_2 : decode cX10_touchesOf 2 = .ok (.iconst 0, 1) := by decide +kernel
theorem dX10_touchesOf_3 : decode cX10_touchesOf 3 = .ok (.istore_n 3, 1) := by decide +kernel
theorem dX10_touchesOf_4 : decode cX10_touchesOf 4 = .ok (.iload_n 3, 1) := by decide +kernel
theorem dX10_touchesOf_5 : decode cX10_touchesOf 5 = .ok (.aload_n 0, 1) := by decide +kernel
theorem dX10_touchesOf_6 : decode cX10_touchesOf 6 = .ok (.getfield 138, 3) := by decide +kernel
theorem dX10_touchesOf_9 : decode cX10_touchesOf 9 = .ok (.if_icmp .ge 26, 3) := by decide +kernel
theorem dX10_touchesOf_12 : decode cX10_touchesOf 12 = .ok (.iload_n 2, 1) := by decide +kernel
theorem dX10_touchesOf_13 : decode cX10_touchesOf 13 = .ok (.aload_n 0, 1) := by decide +kernel
theorem dX10_touchesOf_14 : decode cX10_touchesOf 14 = .ok (.iload_n 1, 1) := by decide +kernel
theorem dX10_touchesOf_15 : decode cX10_touchesOf 15 = .ok (.iload_n 3, 1) := by decide +kernel
theorem dX10_touchesOf_16 : decode cX10_touchesOf 16 = .ok (.invokevirtual 144, 3) := by decide +kernel
theorem dX10_touchesOf_19 : decode cX10_touchesOf 19 = .ok (.ifCond .eq 7, 3) := by decide +kernel
theorem dX10_touchesOf_22 : decode cX10_touchesOf 22 = .ok (.iconst 1, 1) := by decide +kernel
theorem dX10_touchesOf_23 : decode cX10_touchesOf 23 = .ok (.goto 4, 3) := by decide +kernel
theorem dX10_touchesOf_26 : decode cX10_touchesOf 26 = .ok (.iconst 0, 1) := by decide +kernel
theorem dX10_touchesOf_27 : decode cX10_touchesOf 27 = .ok (.iadd, 1) := by decide +kernel
theorem dX10_touchesOf_28 : decode cX10_touchesOf 28 = .ok (.istore_n 2, 1) := by decide +kernel
theorem dX10_touchesOf_29 : decode cX10_touchesOf 29 = .ok (.iinc 3 1, 3) := by decide +kernel
theorem dX10_touchesOf_32 : decode cX10_touchesOf 32 = .ok (.goto (-28), 3) := by decide +kernel
theorem dX10_touchesOf_35 : decode cX10_touchesOf 35 = .ok (.iload_n 2, 1) := by decide +kernel
theorem dX10_touchesOf_36 : decode cX10_touchesOf 36 = .ok (.ireturn, 1) := by decide +kernel
set_option maxRecDepth 20000 in
theorem ggX10_house_X10_isHouse : GoodIn wsX10_house wsX10_isHouse := goodIn_r _ [10, 11, 12, 13, 9, 14, 26, 27, 28, 29, 30, 31, 32, 33, 34, 35, 36, 37, 38, 39, 40, 41, 42, 43, 44, 45, 46, 47, 48, 49, 50, 51, 52, 53, 54, 55, 56] (by decide +kernel) (by decide +kernel)
set_option maxRecDepth 20000 in
theorem gX10_house_X10_isHouse : GoodIn wsX10_house (wsV RX10 147 RX10 yX10_isHouse wsX10_isHouse) := goodIn_app (goodIn_of _ (by decide +kernel)) ggX10_house_X10_isHouse
set_option maxRecDepth 20000 in
theorem ggX10_house_X10_in : GoodIn wsX10_house wsX10_in := goodIn_r _ [14] (by decide +kernel) (by decide +kernel)
set_option maxRecDepth 20000 in
theorem gX10_house_X10_in : GoodIn wsX10_house (va_wsS RX10 54 yX10_in wsX10_in) := goodIn_app (goodIn_of _ (by decide +kernel)) ggX10_house_X10_in
set_option maxRecDepth 20000 in
theorem ggX10_house_X10_touchesOf : GoodIn wsX10_house wsX10_touchesOf := goodIn_r _ [18, 11, 19, 20, 21, 9, 22, 2, 3, 23, 24, 25, 26, 27, 28, 29, 30, 31, 32, 33, 34, 35, 36, 37, 38, 39, 40, 41, 42, 43, 44, 45, 46, 47, 48, 49, 50, 51, 52, 53, 54, 55, 56] (by decide +kernel) (by decide +kernel)
set_option maxRecDepth 20000 in
theorem gX10_house_X10_touchesOf : GoodIn wsX10_house (wsV RX10 151 RX10 yX10_touchesOf wsX10_touchesOf) := goodIn_app (goodIn_of _ (by decide +kernel)) ggX10_house_X10_touchesOf
theorem dX10_house_0 : decode cX10_house 0 = .ok (.aload_n 0, 1) := by decide +kernel
theorem dX10_house_1 : decode cX10_house 1 = .ok (.iconst 0, 1) := by decide +kernel
theorem dX10_house_2 : decode cX10_house 2 = .ok (.putfield 50, 3) := by decide +kernel
theorem dX10_house_5 : decode cX10_house 5 = .ok (.aload_n 0, 1) := by decide +kernel
theorem dX10_house_6 : decode cX10_house 6 = .ok (.iload_n 1, 1) := by decide +kernel
theorem dX10_house_7 : decode cX10_house 7 = .ok (.invokevirtual 147, 3) := by decide +kernel
theorem dX10_house_10 : decode cX10_house 10 = .ok (.ifCond .eq 12, 3) := by decide +kernel
theorem dX10_house_13 : decode cX10_house 13 = .ok (.iload_n 2, 1) := by decide +kernel
theorem dX10_house_14 : decode cX10_house 14 = .ok (.iconst 0, 1) := by decide +kernel
theorem dX10_house_15 : decode cX10_house 15 = .ok (.iconst 4, 1) := by decide +kernel
theorem dX10_house_16 : decode cX10_house 16 = .ok (.invokestatic 54, 3) := by decide +kernel
theorem dX10_house_19 : decode cX10_house 19 = .ok (.ifCond .ne 5, 3) := by decide +kernel
theorem dX10_house_22 : decode cX10_house 22 = .ok (.iconst (-1), 1) := by decide +kernel
theorem dX10_house_23 : decode cX10_house 23 = .ok (.ireturn, 1) := by decide +kernel
theorem dX10_house_24 : decode cX10_house 24 = .ok (.iload_n 2, 1) := by decide +kernel
theorem dX10_house_25 : decode cX10_house 25 = .ok (.ifCond .ne 12, 3) := by decide +kernel
theorem dX10_house_28 : decode cX10_house 28 = .ok (.aload_n 0, 1) := by decide +kernel
theorem dX10_house_29 : decode cX10_house 29 = .ok (.getfield 19, 3) := by decide +kernel
theorem dX10_house_32 : decode cX10_house 32 = .ok (.iload_n 1, 1) := by decide +kernel
theorem dX10_house_33 : decode cX10_house 33 = .ok (.iaload, 1) := by decide +kernel
theorem dX10_house_34 : decode cX10_house 34 = .ok (.goto 50, 3) := by decide +kernel
theorem dX10_house_37 : decode cX10_house 37 = .ok (.iload_n 2, 1) := by decide +kernel
theorem dX10_house_38 : decode cX10_house 38 = .ok (.iconst 1, 1) := by decide +kernel
theorem dX10_house_39 : decode cX10_house 39 = .ok (.if_icmp .ne 12, 3) := by decide +kernel
theorem dX10_house_42 : decode cX10_house 42 = .ok (.aload_n 0, 1) := by decide +kernel
theorem dX10_house_43 : decode cX10_house 43 = .ok (.getfield 22, 3) := by decide +kernel
theorem dX10_house_46 : decode cX10_house 46 = .ok (.iload_n 1, 1) := by decide +kernel
theorem dX10_house_47 : decode cX10_house 47 = .ok (.iaload, 1) := by decide +kernel
theorem dX10_house_48 : decode cX10_house 48 = .ok (.goto 36, 3) := by decide +kernel
theorem dX10_house_51 : decode cX10_house 51 = .ok (.iload_n 2, 1) := by decide +kernel
theorem dX10_house_52 : decode cX10_house 52 = .ok (.iconst 2, 1) := by decide +kernel
theorem dX10_house_53 : decode cX10_house 53 = .ok (.if_icmp .ne 12, 3) := by decide +kernel
theorem dX10_house_56 : decode cX10_house 56 = .ok (.aload_n 0, 1) := by decide +kernel
theorem dX10_house_57 : decode cX10_house 57 = .ok (.getfield 31, 3) := by decide +kernel
theorem dX10_house_60 : decode cX10_house 60 = .ok (.iload_n 1, 1) := by decide +kernel
theorem dX10_house_61 : decode cX10_house 61 = .ok (.iaload, 1) := by decide +kernel
theorem dX10_house_62 : decode cX10_house 62 = .ok (.goto 22, 3) := by decide +kernel
theorem dX10_house_65 : decode cX10_house 65 = .ok (.iload_n 2, 1) := by decide +kernel
theorem dX10_house_66 : decode cX10_house 66 = .ok (.iconst 3, 1) := by decide +kernel
theorem dX10_house_67 : decode cX10_house 67 = .ok (.if_icmp .ne 12, 3) := by decide +kernel
theorem dX10_house_70 : decode cX10_house 70 = .ok (.aload_n 0, 1) := by decide +kernel
theorem dX10_house_71 : decode cX10_house 71 = .ok (.getfield 25, 3) := by decide +kernel
theorem dX10_house_74 : decode cX10_house 74 = .ok (.iload_n 1, 1) := by decide +kernel
theorem dX10_house_75 : decode cX10_house 75 = .ok (.iaload, 1) := by decide +kernel
theorem dX10_house_76 : decode cX10_house 76 = .ok (.goto 8, 3) := by decide +kernel
theorem dX10_house_79 : decode cX10_house 79 = .ok (.aload_n 0, 1) := by decide +kernel
theorem dX10_house_80 : decode cX10_house 80 = .ok (.iload_n 1, 1) := by decide +kernel
theorem dX10_house_81 : decode cX10_house 81 = .ok (.invokevirtual 151, 3) := by decide +kernel
theorem dX10_house_84 : decode cX10_house 84 = .ok (.ireturn, 1) := by decide +kernel
set_option maxRecDepth 20000 in
theorem ggX10_sort_X10_isSort : GoodIn wsX10_sort wsX10_isSort := goodIn_r _ [8, 9, 10, 11, 7, 12, 13, 14, 15, 16, 17, 18, 19, 20, 21, 22, 23, 24, 25, 26, 27, 28, 29, 30, 31, 32, 33, 34, 35, 36, 37, 38, 39, 40, 41, 42, 43] (by decide +kernel) (by decide +kernel)
set_option maxRecDepth 20000 in
theorem gX10_sort_X10_isSort : GoodIn wsX10_sort (wsV RX10 154 RX10 yX10_isSort wsX10_isSort) := goodIn_app (goodIn_of _ (by decide +kernel)) ggX10_sort_X10_isSort
set_option maxRecDepth 20000 in
theorem ggX10_sort_X10_in : GoodIn wsX10_sort wsX10_in := goodIn_r _ [12] (by decide +kernel) (by decide +kernel)
set_option maxRecDepth 20000 in
theorem gX10_sort_X10_in : GoodIn wsX10_sort (va_wsS RX10 54 yX10_in wsX10_in) := goodIn_app (goodIn_of _ (by decide +kernel)) ggX10_sort_X10_in
theorem dX10_sort_0 : decode cX10_sort 0 = .ok (.aload_n 0, 1) := by decide +kernel
theorem dX10_sort_1 : decode cX10_sort 1 = .ok (.iconst 0, 1) := by decide +kernel
theorem dX10_sort_2 : decode cX10_sort 2 = .ok (.putfield 50, 3) := by decide +kernel
theorem dX10_sort_5 : decode cX10_sort 5 = .ok (.aload_n 0, 1) := by decide +kernel
theorem dX10_sort_6 : decode cX10_sort 6 = .ok (.iload_n 1, 1) := by decide +kernel
theorem dX10_sort_7 : decode cX10_sort 7 = .ok (.invokevirtual 154, 3) := by decide +kernel
theorem dX10_sort_10 : decode cX10_sort 10 = .ok (.ifCond .eq 34, 3) := by decide +kernel
theorem dX10_sort_13 : decode cX10_sort 13 = .ok (.iload_n 2, 1) := by decide +kernel
theorem dX10_sort_14 : decode cX10_sort 14 = .ok (.iconst 0, 1) := by decide +kernel
theorem dX10_sort_15 : decode cX10_sort 15 = .ok (.iconst 1, 1) := by decide +kernel
theorem dX10_sort_16 : decode cX10_sort 16 = .ok (.invokestatic 54, 3) := by decide +kernel
theorem dX10_sort_19 : decode cX10_sort 19 = .ok (.ifCond .eq 25, 3) := by decide +kernel
theorem dX10_sort_22 : decode cX10_sort 22 = .ok (.iload_n 2, 1) := by decide +kernel
theorem dX10_sort_23 : decode cX10_sort 23 = .ok (.ifCond .ne 12, 3) := by decide +kernel
theorem dX10_sort_26 : decode cX10_sort 26 = .ok (.aload_n 0, 1) := by decide +kernel
theorem dX10_sort_27 : decode cX10_sort 27 = .ok (.getfield 13, 3) := by decide +kernel
theorem dX10_sort_30 : decode cX10_sort 30 = .ok (.iload_n 1, 1) := by decide +kernel
theorem dX10_sort_31 : decode cX10_sort 31 = .ok (.iaload, 1) := by decide +kernel
theorem dX10_sort_32 : decode cX10_sort 32 = .ok (.goto 13, 3) := by decide +kernel
theorem dX10_sort_35 : decode cX10_sort 35 = .ok (.aload_n 0, 1) := by decide +kernel
theorem dX10_sort_36 : decode cX10_sort 36 = .ok (.getfield 16, 3) := by decide +kernel
theorem dX10_sort_39 : decode cX10_sort 39 = .ok (.iload_n 1, 1) := by decide +kernel
theorem dX10_sort_40 : decode cX10_sort 40 = .ok (.iaload, 1) := by decide +kernel
theorem dX10_sort_41 : decode cX10_sort 41 = .ok (.goto 4, 3) := by decide +kernel
theorem dX10_sort_44 : decode cX10_sort 44 = .ok (.iconst (-1), 1) := by decide +kernel
theorem dX10_sort_45 : decode cX10_sort 45 = .ok (.ireturn, 1) := by decide +kernel
set_option maxRecDepth 20000 in
theorem ggX10_roof_X10_isHouse : GoodIn wsX10_roof wsX10_isHouse := goodIn_r _ [8, 9, 10, 11, 7, 12, 18, 19, 20, 21, 22, 23, 24, 25, 26, 27, 28, 29, 30, 31, 32, 33, 34, 35, 36, 37, 38, 39, 40, 41, 42, 43, 44, 45, 46, 47, 48] (by decide +kernel) (by decide +kernel)
set_option maxRecDepth 20000 in
theorem gX10_roof_X10_isHouse : GoodIn wsX10_roof (wsV RX10 147 RX10 yX10_isHouse wsX10_isHouse) := goodIn_app (goodIn_of _ (by decide +kernel)) ggX10_roof_X10_isHouse
set_option maxRecDepth 20000 in
theorem ggX10_roof_X10_isSort : GoodIn wsX10_roof wsX10_isSort := goodIn_r _ [16, 17, 10, 11, 7, 12, 18, 19, 20, 21, 22, 23, 24, 25, 26, 27, 28, 29, 30, 31, 32, 33, 34, 35, 36, 37, 38, 39, 40, 41, 42, 43, 44, 45, 46, 47, 48] (by decide +kernel) (by decide +kernel)
set_option maxRecDepth 20000 in
theorem gX10_roof_X10_isSort : GoodIn wsX10_roof (wsV RX10 154 RX10 yX10_isSort wsX10_isSort) := goodIn_app (goodIn_of _ (by decide +kernel)) ggX10_roof_X10_isSort
theorem dX10_roof_0 : decode cX10_roof 0 = .ok (.aload_n 0, 1) := by decide +kernel
theorem dX10_roof_1 : decode cX10_roof 1 = .ok (.iconst 0, 1) := by decide +kernel
theorem dX10_roof_2 : decode cX10_roof 2 = .ok (.putfield 50, 3) := by decide +kernel
theorem dX10_roof_5 : decode cX10_roof 5 = .ok (.aload_n 0, 1) := by decide +kernel
theorem dX10_roof_6 : decode cX10_roof 6 = .ok (.iload_n 1, 1) := by decide +kernel
theorem dX10_roof_7 : decode cX10_roof 7 = .ok (.invokevirtual 147, 3) := by decide +kernel
theorem dX10_roof_10 : decode cX10_roof 10 = .ok (.ifCond .eq 17, 3) := by decide +kernel
theorem dX10_roof_13 : decode cX10_roof 13 = .ok (.iload_n 2, 1) := by decide +kernel
theorem dX10_roof_14 : decode cX10_roof 14 = .ok (.bipush (-9), 2) := by decide +kernel
theorem dX10_roof_16 : decode cX10_roof 16 = .ok (.if_icmp .eq 13, 3) := by decide +kernel
theorem dX10_roof_19 : decode cX10_roof 19 = .ok (.aload_n 0, 1) := by decide +kernel
theorem dX10_roof_20 : decode cX10_roof 20 = .ok (.iload_n 2, 1) := by decide +kernel
theorem dX10_roof_21 : decode cX10_roof 21 = .ok (.invokevirtual 154, 3) := by decide +kernel
theorem dX10_roof_24 : decode cX10_roof 24 = .ok (.ifCond .ne 5, 3) := by decide +kernel
theorem dX10_roof_27 : decode cX10_roof 27 = .ok (.iconst (-1), 1) := by decide +kernel
theorem dX10_roof_28 : decode cX10_roof 28 = .ok (.ireturn, 1) := by decide +kernel
theorem dX10_roof_29 : decode cX10_roof 29 = .ok (.iload_n 2, 1) := by decide +kernel
theorem dX10_roof_30 : decode cX10_roof 30 = .ok (.bipush (-9), 2) := by decide +kernel
theorem dX10_roof_32 : decode cX10_roof 32 = .ok (.if_icmp .eq 27, 3) := by decide +kernel
theorem dX10_roof_35 : decode cX10_roof 35 = .ok (.aload_n 0, 1) := by decide +kernel
theorem dX10_roof_36 : decode cX10_roof 36 = .ok (.getfield 25, 3) := by decide +kernel
theorem dX10_roof_39 : decode cX10_roof 39 = .ok (.iload_n 1, 1) := by decide +kernel
theorem dX10_roof_40 : decode cX10_roof 40 = .ok (.iaload, 1) := by decide +kernel
theorem dX10_roof_41 : decode cX10_roof 41 = .ok (.bipush (-9), 2) := by decide +kernel
theorem dX10_roof_43 : decode cX10_roof 43 = .ok (.if_icmp .eq 16, 3) := by decide +kernel
theorem dX10_roof_46 : decode cX10_roof 46 = .ok (.aload_n 0, 1) := by decide +kernel
theorem dX10_roof_47 : decode cX10_roof 47 = .ok (.getfield 25, 3) := by decide +kernel
theorem dX10_roof_50 : decode cX10_roof 50 = .ok (.iload_n 1, 1) := by decide +kernel
theorem dX10_roof_51 : decode cX10_roof 51 = .ok (.iaload, 1) := by decide +kernel
theorem dX10_roof_52 : decode cX10_roof 52 = .ok (.iload_n 2, 1) := by decide +kernel
theorem dX10_roof_53 : decode cX10_roof 53 = .ok (.if_icmp .eq 6, 3) := by decide +kernel
theorem dX10_roof_56 : decode cX10_roof 56 = .ok (.bipush (-2), 2) := by decide +kernel
theorem dX10_roof_58 : decode cX10_roof 58 = .ok (.ireturn, 1) := by decide +kernel
theorem dX10_roof_59 : decode cX10_roof 59 = .ok (.aload_n 0, 1) := by decide +kernel
theorem dX10_roof_60 : decode cX10_roof 60 = .ok (.getfield 31, 3) := by decide +kernel
theorem dX10_roof_63 : decode cX10_roof 63 = .ok (.iload_n 1, 1) := by decide +kernel
theorem dX10_roof_64 : decode cX10_roof 64 = .ok (.iaload, 1) := by decide +kernel
theorem dX10_roof_65 : decode cX10_roof 65 = .ok (.istore_n 3, 1) := by decide +kernel
theorem dX10_roof_66 : decode cX10_roof 66 = .ok (.aload_n 0, 1) := by decide +kernel
theorem dX10_roof_67 : decode cX10_roof 67 = .ok (.getfield 31, 3) := by decide +kernel
theorem dX10_roof_70 : decode cX10_roof 70 = .ok (.iload_n 1, 1) := by decide +kernel
theorem dX10_roof_71 : decode cX10_roof 71 = .ok (.iload_n 2, 1) := by decide +kernel
theorem dX10_roof_72 : decode cX10_roof 72 = .ok (.iastore, 1) := by decide +kernel
theorem dX10_roof_73 : decode cX10_roof 73 = .ok (.iload_n 3, 1) := by decide +kernel
theorem dX10_roof_74 : decode cX10_roof 74 = .ok (.ireturn, 1) := by decide +kernel
set_option maxRecDepth 20000 in
theorem ggX10_wind_X10_in : GoodIn wsX10_wind wsX10_in := goodIn_r _ [6] (by decide +kernel) (by decide +kernel)
set_option maxRecDepth 20000 in
theorem gX10_wind_X10_in : GoodIn wsX10_wind (va_wsS RX10 54 yX10_in wsX10_in) := goodIn_app (goodIn_of _ (by decide +kernel)) ggX10_wind_X10_in
theorem dX10_wind_0 : decode cX10_wind 0 = .ok (.aload_n 0, 1) := by decide +kernel
theorem dX10_wind_1 : decode cX10_wind 1 = .ok (.iconst 0, 1) := by decide +kernel
theorem dX10_wind_2 : decode cX10_wind 2 = .ok (.putfield 50, 3) := by decide +kernel
theorem dX10_wind_5 : decode cX10_wind 5 = .ok (.iload_n 1, 1) := by decide +kernel
theorem dX10_wind_6 : decode cX10_wind 6 = .ok (.iconst 0, 1) := by decide +kernel
theorem dX10_wind_7 : decode cX10_wind 7 = .ok (.iconst 4, 1) := by decide +kernel
theorem dX10_wind_8 : decode cX10_wind 8 = .ok (.invokestatic 54, 3) := by decide +kernel
theorem dX10_wind_11 : decode cX10_wind 11 = .ok (.ifCond .ne 5, 3) := by decide +kernel
theorem dX10_wind_14 : decode cX10_wind 14 = .ok (.iconst (-1), 1) := by decide +kernel
theorem dX10_wind_15 : decode cX10_wind 15 = .ok (.ireturn, 1) := by decide +kernel
theorem dX10_wind_16 : decode cX10_wind 16 = .ok (.aload_n 0, 1) := by decide +kernel
theorem dX10_wind_17 : decode cX10_wind 17 = .ok (.getfield 31, 3) := by decide +kernel
theorem dX10_wind_20 : decode cX10_wind 20 = .ok (.bipush 8, 2) := by decide +kernel
theorem dX10_wind_22 : decode cX10_wind 22 = .ok (.iaload, 1) := by decide +kernel
theorem dX10_wind_23 : decode cX10_wind 23 = .ok (.istore_n 2, 1) := by decide +kernel
theorem dX10_wind_24 : decode cX10_wind 24 = .ok (.aload_n 0, 1) := by decide +kernel
theorem dX10_wind_25 : decode cX10_wind 25 = .ok (.getfield 31, 3) := by decide +kernel
theorem dX10_wind_28 : decode cX10_wind 28 = .ok (.bipush 8, 2) := by decide +kernel
theorem dX10_wind_30 : decode cX10_wind 30 = .ok (.iload_n 1, 1) := by decide +kernel
theorem dX10_wind_31 : decode cX10_wind 31 = .ok (.iastore, 1) := by decide +kernel
theorem dX10_wind_32 : decode cX10_wind 32 = .ok (.iload_n 2, 1) := by decide +kernel
theorem dX10_wind_33 : decode cX10_wind 33 = .ok (.ireturn, 1) := by decide +kernel
set_option maxRecDepth 20000 in
theorem ggX10_isBreach_X10_touch : GoodIn wsX10_isBreach wsX10_touch := goodIn_r _ [6, 7, 8, 9, 10, 5, 11, 16, 17, 18, 19, 20, 21, 22, 23, 24, 25, 26, 27, 28, 29, 30, 31, 32, 33, 34, 35, 36, 37, 38, 39, 40, 41, 42, 43, 44, 45, 46] (by decide +kernel) (by decide +kernel)
set_option maxRecDepth 20000 in
theorem gX10_isBreach_X10_touch : GoodIn wsX10_isBreach (wsV RX10 144 RX10 yX10_touch wsX10_touch) := goodIn_app (goodIn_of _ (by decide +kernel)) ggX10_isBreach_X10_touch
set_option maxRecDepth 20000 in
theorem ggX10_isBreach_X10_sparkle : GoodIn wsX10_isBreach wsX10_sparkle := goodIn_r _ [15, 7, 8, 9, 10, 5, 11, 16, 17, 18, 19, 20, 21, 22, 23, 24, 25, 26, 27, 28, 29, 30, 31, 32, 33, 34, 35, 36, 37, 38, 39, 40, 41, 42, 43, 44, 45, 46] (by decide +kernel) (by decide +kernel)
set_option maxRecDepth 20000 in
theorem gX10_isBreach_X10_sparkle : GoodIn wsX10_isBreach (wsV RX10 157 RX10 yX10_sparkle wsX10_sparkle) := goodIn_app (goodIn_of _ (by decide +kernel)) ggX10_isBreach_X10_sparkle
theorem dX10_isBreach_0 : decode cX10_isBreach 0 = .ok (.aload_n 0, 1) := by decide +kernel
theorem dX10_isBreach_1 : decode cX10_isBreach 1 = .ok (.iload_n 1, 1) := by decide +kernel
theorem dX10_isBreach_2 : decode cX10_isBreach 2 = .ok (.iload_n 2, 1) := by decide +kernel
theorem dX10_isBreach_3 : decode cX10_isBreach 3 = .ok (.invokevirtual 144, 3) := by decide +kernel
theorem dX10_isBreach_6 : decode cX10_isBreach 6 = .ok (.ifCond .ne 17, 3) := by decide +kernel
theorem dX10_isBreach_9 : decode cX10_isBreach 9 = .ok (.iload_n 3, 1) := by decide +kernel
theorem dX10_isBreach_10 : decode cX10_isBreach 10 = .ok (.iconst 1, 1) := by decide +kernel
theorem dX10_isBreach_11 : decode cX10_isBreach 11 = .ok (.if_icmp .ne 16, 3) := by decide +kernel
theorem dX10_isBreach_14 : decode cX10_isBreach 14 = .ok (.aload_n 0, 1) := by decide +kernel
theorem dX10_isBreach_15 : decode cX10_isBreach 15 = .ok (.iload_n 1, 1) := by decide +kernel
theorem dX10_isBreach_16 : decode cX10_isBreach 16 = .ok (.iload_n 2, 1) := by decide +kernel
theorem dX10_isBreach_17 : decode cX10_isBreach 17 = .ok (.invokevirtual 157, 3) := by decide +kernel
theorem dX10_isBreach_20 : decode cX10_isBreach 20 = .ok (.ifCond .eq 7, 3) := by decide +kernel
theorem dX10_isBreach_23 : decode cX10_isBreach 23 = .ok (.iconst 1, 1) := by decide +kernel
theorem dX10_isBreach_24 : decode cX10_isBreach 24 = .ok (.goto 4, 3) := by decide +kernel
theorem dX10_isBreach_27 : decode cX10_isBreach 27 = .ok (.iconst 0, 1) := by decide +kernel
theorem dX10_isBreach_28 : decode cX10_isBreach 28 = .ok (.istore 4, 2) := by decide +kernel
theorem dX10_isBreach_30 : decode cX10_isBreach 30 = .ok (.iload 4, 2) := by decide +kernel
theorem dX10_isBreach_32 : decode cX10_isBreach 32 = .ok (.ifCond .eq 33, 3) := by decide +kernel
theorem dX10_isBreach_35 : decode cX10_isBreach 35 = .ok (.aload_n 0, 1) := by decide +kernel
theorem dX10_isBreach_36 : decode cX10_isBreach 36 = .ok (.getfield 41, 3) := by decide +kernel
theorem dX10_isBreach_39 : decode cX10_isBreach 39 = .ok (.iload_n 1, 1) := by decide +kernel
theorem dX10_isBreach_40 : decode cX10_isBreach 40 = .ok (.iaload, 1) := by decide +kernel
theorem dX10_isBreach_41 : decode cX10_isBreach 41 = .ok (.bipush (-9), 2) := by decide +kernel
theorem dX10_isBreach_43 : decode cX10_isBreach 43 = .ok (.if_icmp .eq 22, 3) := by decide +kernel
theorem dX10_isBreach_46 : decode cX10_isBreach 46 = .ok (.aload_n 0, 1) := by decide +kernel
theorem dX10_isBreach_47 : decode cX10_isBreach 47 = .ok (.getfield 41, 3) := by decide +kernel
theorem dX10_isBreach_50 : decode cX10_isBreach 50 = .ok (.iload_n 1, 1) := by decide +kernel
theorem dX10_isBreach_51 : decode cX10_isBreach 51 = .ok (.iaload, 1) := by decide +kernel
theorem dX10_isBreach_52 : decode cX10_isBreach 52 = .ok (.aload_n 0, 1) := by decide +kernel
theorem dX10_isBreach_53 : decode cX10_isBreach 53 = .ok (.getfield 41, 3) := by decide +kernel
theorem dX10_isBreach_56 : decode cX10_isBreach 56 = .ok (.iload_n 2, 1) := by decide +kernel
theorem dX10_isBreach_57 : decode cX10_isBreach 57 = .ok (.iaload, 1) := by decide +kernel
theorem dX10_isBreach_58 : decode cX10_isBreach 58 = .ok (.if_icmp .ne 7, 3) := by decide +kernel
theorem dX10_isBreach_61 : decode cX10_isBreach 61 = .ok (.iconst 1, 1) := by decide +kernel
theorem dX10_isBreach_62 : decode cX10_isBreach 62 = .ok (.goto 4, 3) := by decide +kernel
theorem dX10_isBreach_65 : decode cX10_isBreach 65 = .ok (.iconst 0, 1) := by decide +kernel
theorem dX10_isBreach_66 : decode cX10_isBreach 66 = .ok (.ireturn, 1) := by decide +kernel
theorem dX10_triesNow_0 : decode cX10_triesNow 0 = .ok (.iconst 0, 1) := by decide +kernel
theorem dX10_triesNow_1 : decode cX10_triesNow 1 = .ok (.istore_n 1, 1) := by decide +kernel
theorem dX10_triesNow_2 : decode cX10_triesNow 2 = .ok (.iload_n 1, 1) := by decide +kernel
theorem dX10_triesNow_3 : decode cX10_triesNow 3 = .ok (.bipush 8, 2) := by decide +kernel
theorem dX10_triesNow_5 : decode cX10_triesNow 5 = .ok (.if_icmp .ge 21, 3) := by decide +kernel
theorem dX10_triesNow_8 : decode cX10_triesNow 8 = .ok (.aload_n 0, 1) := by decide +kernel
theorem dX10_triesNow_9 : decode cX10_triesNow 9 = .ok (.getfield 41, 3) := by decide +kernel
theorem dX10_triesNow_12 : decode cX10_triesNow 12 = .ok (.iload_n 1, 1) := by decide +kernel
theorem dX10_triesNow_13 : decode cX10_triesNow 13 = .ok (.aload_n 0, 1) := by decide +kernel
theorem dX10_triesNow_14 : decode cX10_triesNow 14 = .ok (.getfield 31, 3) := by decide +kernel
theorem dX10_triesNow_17 : decode cX10_triesNow 17 = .ok (.iload_n 1, 1) := by decide +kernel
theorem dX10_triesNow_18 : decode cX10_triesNow 18 = .ok (.iaload, 1) := by decide +kernel
theorem dX10_triesNow_19 : decode cX10_triesNow 19 = .ok (.iastore, 1) := by decide +kernel
theorem dX10_triesNow_20 : decode cX10_triesNow 20 = .ok (.iinc 1 1, 3) := by decide +kernel
theorem dX10_triesNow_23 : decode cX10_triesNow 23 = .ok (.goto (-21), 3) := by decide +kernel
theorem dX10_triesNow_26 : decode cX10_triesNow 26 = .ok (.return_, 1) := by decide +kernel
set_option maxRecDepth 20000 in
theorem ggX10_breachesOf_X10_isBreach : GoodIn wsX10_breachesOf wsX10_isBreach := goodIn_r _ [6, 7, 8, 9, 10, 5, 11, 12, 13, 14, 15, 16, 17, 18, 19, 20, 21, 22, 23, 24, 25, 26, 27, 28, 29, 30, 31, 32, 33, 34, 35, 36, 37, 38, 39, 40, 41, 42, 43, 44, 45, 46, 47, 48, 49, 50, 51] (by decide +kernel) (by decide +kernel)
set_option maxRecDepth 20000 in
theorem gX10_breachesOf_X10_isBreach : GoodIn wsX10_breachesOf (wsV RX10 160 RX10 yX10_isBreach wsX10_isBreach) := goodIn_app (goodIn_of _ (by decide +kernel)) ggX10_breachesOf_X10_isBreach
theorem dX10_breachesOf_0 : decode cX10_breachesOf 0 = .ok (.iconst 0, 1) := by decide +kernel
theorem dX10_breachesOf_1 : decode cX10_breachesOf 1 = .ok (.istore_n 2, 1) := by decide +kernel
theorem dX10_breachesOf_2 : decode cX10_breachesOf 2 = .ok (.iconst 0, 1) := by decide +kernel
theorem dX10_breachesOf_3 : decode cX10_breachesOf 3 = .ok (.istore_n 3, 1) := by decide +kernel
theorem dX10_breachesOf_4 : decode cX10_breachesOf 4 = .ok (.iload_n 3, 1) := by decide +kernel
theorem dX10_breachesOf_5 : decode cX10_breachesOf 5 = .ok (.aload_n 0, 1) := by decide +kernel
theorem dX10_breachesOf_6 : decode cX10_breachesOf 6 = .ok (.getfield 138, 3) := by decide +kernel
theorem dX10_breachesOf_9 : decode cX10_breachesOf 9 = .ok (.if_icmp .ge 43, 3) := by decide +kernel
theorem dX10_breachesOf_12 : decode cX10_breachesOf 12 = .ok (.iconst 0, 1) := by decide +kernel
theorem dX10_breachesOf_13 : decode cX10_breachesOf 13 = .ok (.istore 4, 2) := by decide +kernel
theorem dX10_breachesOf_15 : decode cX10_breachesOf 15 = .ok (.iload 4, 2) := by decide +kernel
theorem dX10_breachesOf_17 : decode cX10_breachesOf 17 = .ok (.iload_n 3, 1) := by decide +kernel
theorem dX10_breachesOf_18 : decode cX10_breachesOf 18 = .ok (.if_icmp .ge 28, 3) := by decide +kernel
theorem dX10_breachesOf_21 : decode cX10_breachesOf 21 = .ok (.iload_n 2, 1) := by decide +kernel
theorem dX10_breachesOf_22 : decode cX10_breachesOf 22 = .ok (.aload_n 0, 1) := by decide +kernel
theorem dX10_breachesOf_23 : decode cX10_breachesOf 23 = .ok (.iload_n 3, 1) := by decide +kernel
theorem dX10_breachesOf_24 : decode cX10_breachesOf 24 = .ok (.iload 4, 2) := by decide +kernel
theorem dX10_breachesOf_26 : decode cX10_breachesOf 26 = .ok (.iload_n 1, 1) := by decide +kernel
theorem dX10_breachesOf_27 : decode cX10_breachesOf 27 = .ok (.invokevirtual 160, 3) := by decide +kernel
theorem dX10_breachesOf_30 : decode cX10_breachesOf 30 = .ok (.ifCond .eq 7, 3) := by decide +kernel
theorem dX10_breachesOf_33 : decode cX10_breachesOf 33 = .ok (.iconst 1, 1) := by decide +kernel
theorem dX10_breachesOf_34 : decode cX10_breachesOf 34 = .ok (.goto 4, 3) := by decide +kernel
theorem dX10_breachesOf_37 : decode cX10_breachesOf 37 = .ok (.iconst 0, 1) := by decide +kernel
theorem dX10_breachesOf_38 : decode cX10_breachesOf 38 = .ok (.iadd, 1) := by decide +kernel
theorem dX10_breachesOf_39 : decode cX10_breachesOf 39 = .ok (.istore_n 2, 1) := by decide +kernel
theorem dX10_breachesOf_40 : decode cX10_breachesOf 40 = .ok (.iinc 4 1, 3) := by decide +kernel
theorem dX10_breachesOf_43 : decode cX10_breachesOf 43 = .ok (.goto (-28), 3) := by decide +kernel
theorem dX10_breachesOf_46 : decode cX10_breachesOf 46 = .ok (.iinc 3 1, 3) := by decide +kernel
theorem dX10_breachesOf_49 : decode cX10_breachesOf 49 = .ok (.goto (-45), 3) := by decide +kernel
theorem dX10_breachesOf_52 : decode cX10_breachesOf 52 = .ok (.iload_n 2, 1) := by decide +kernel
theorem dX10_breachesOf_53 : decode cX10_breachesOf 53 = .ok (.ireturn, 1) := by decide +kernel
set_option maxRecDepth 20000 in
theorem ggX10_isBit_X10_in : GoodIn wsX10_isBit wsX10_in := goodIn_r _ [4] (by decide +kernel) (by decide +kernel)
set_option maxRecDepth 20000 in
theorem gX10_isBit_X10_in : GoodIn wsX10_isBit (va_wsS RX10 54 yX10_in wsX10_in) := goodIn_app (goodIn_of _ (by decide +kernel)) ggX10_isBit_X10_in
theorem dX10_isBit_0 : decode cX10_isBit 0 = .ok (.iload_n 0, 1) := by decide +kernel
theorem dX10_isBit_1 : decode cX10_isBit 1 = .ok (.iconst 0, 1) := by decide +kernel
theorem dX10_isBit_2 : decode cX10_isBit 2 = .ok (.iconst 1, 1) := by decide +kernel
theorem dX10_isBit_3 : decode cX10_isBit 3 = .ok (.invokestatic 54, 3) := by decide +kernel
theorem dX10_isBit_6 : decode cX10_isBit 6 = .ok (.ireturn, 1) := by decide +kernel
set_option maxRecDepth 20000 in
theorem ggX10_breaches_X10_isBit : GoodIn wsX10_breaches wsX10_isBit := goodIn_r _ [5, 6, 7, 4, 8] (by decide +kernel) (by decide +kernel)
set_option maxRecDepth 20000 in
theorem gX10_breaches_X10_isBit : GoodIn wsX10_breaches (va_wsS RX10 163 yX10_isBit wsX10_isBit) := goodIn_app (goodIn_of _ (by decide +kernel)) ggX10_breaches_X10_isBit
set_option maxRecDepth 20000 in
theorem ggX10_breaches_X10_triesNow : GoodIn wsX10_breaches wsX10_triesNow := goodIn_r _ [12, 13, 14, 37, 38, 39, 40, 41, 42, 43, 44, 45, 46, 47, 48, 49, 50, 51, 52, 53, 54, 55, 56, 57, 58, 59, 60, 61, 62, 63, 64, 65, 66, 67] (by decide +kernel) (by decide +kernel)
set_option maxRecDepth 20000 in
theorem gX10_breaches_X10_triesNow : GoodIn wsX10_breaches (wsV RX10 166 RX10 yX10_triesNow wsX10_triesNow) := goodIn_app (goodIn_of _ (by decide +kernel)) ggX10_breaches_X10_triesNow
set_option maxRecDepth 20000 in
theorem ggX10_breaches_X10_breachesOf : GoodIn wsX10_breaches wsX10_breachesOf := goodIn_r _ [18, 19, 20, 21, 22, 4, 23, 13, 24, 25, 26, 27, 28, 29, 30, 31, 32, 33, 34, 35, 36, 37, 38, 39, 40, 41, 42, 43, 44, 45, 46, 47, 48, 49, 50, 51, 52, 53, 54, 55, 56, 57, 58, 59, 60, 61, 62, 63, 64, 65, 66, 67] (by decide +kernel) (by decide +kernel)
set_option maxRecDepth 20000 in
theorem gX10_breaches_X10_breachesOf : GoodIn wsX10_breaches (wsV RX10 169 RX10 yX10_breachesOf wsX10_breachesOf) := goodIn_app (goodIn_of _ (by decide +kernel)) ggX10_breaches_X10_breachesOf
theorem dX10_breaches_0 : decode cX10_breaches 0 = .ok (.aload_n 0, 1) := by decide +kernel
theorem dX10_breaches_1 : decode cX10_breaches 1 = .ok (.iconst 0, 1) := by decide +kernel
theorem dX10_breaches_2 : decode cX10_breaches 2 = .ok (.putfield 50, 3) := by decide +kernel
theorem dX10_breaches_5 : decode cX10_breaches 5 = .ok (.iload_n 1, 1) := by decide +kernel
theorem dX10_breaches_6 : decode cX10_breaches 6 = .ok (.invokestatic 163, 3) := by decide +kernel
theorem dX10_breaches_9 : decode cX10_breaches 9 = .ok (.ifCond .ne 5, 3) := by decide +kernel
theorem dX10_breaches_12 : decode cX10_breaches 12 = .ok (.iconst (-1), 1) := by decide +kernel
theorem dX10_breaches_13 : decode cX10_breaches 13 = .ok (.ireturn, 1) := by decide +kernel
theorem dX10_breaches_14 : decode cX10_breaches 14 = .ok (.aload_n 0, 1) := by decide +kernel
theorem dX10_breaches_15 : decode cX10_breaches 15 = .ok (.invokevirtual 166, 3) := by decide +kernel
theorem dX10_breaches_18 : decode cX10_breaches 18 = .ok (.aload_n 0, 1) := by decide +kernel
theorem dX10_breaches_19 : decode cX10_breaches 19 = .ok (.iload_n 1, 1) := by decide +kernel
theorem dX10_breaches_20 : decode cX10_breaches 20 = .ok (.invokevirtual 169, 3) := by decide +kernel
theorem dX10_breaches_23 : decode cX10_breaches 23 = .ok (.ireturn, 1) := by decide +kernel
theorem dX10_beginsRow_0 : decode cX10_beginsRow 0 = .ok (.iconst 0, 1) := by decide +kernel
theorem dX10_beginsRow_1 : decode cX10_beginsRow 1 = .ok (.istore_n 1, 1) := by decide +kernel
theorem dX10_beginsRow_2 : decode cX10_beginsRow 2 = .ok (.iload_n 1, 1) := by decide +kernel
theorem dX10_beginsRow_3 : decode cX10_beginsRow 3 = .ok (.aload_n 0, 1) := by decide +kernel
theorem dX10_beginsRow_4 : decode cX10_beginsRow 4 = .ok (.getfield 138, 3) := by decide +kernel
theorem dX10_beginsRow_7 : decode cX10_beginsRow 7 = .ok (.if_icmp .ge 36, 3) := by decide +kernel
theorem dX10_beginsRow_10 : decode cX10_beginsRow 10 = .ok (.aload_n 0, 1) := by decide +kernel
theorem dX10_beginsRow_11 : decode cX10_beginsRow 11 = .ok (.getfield 41, 3) := by decide +kernel
theorem dX10_beginsRow_14 : decode cX10_beginsRow 14 = .ok (.iload_n 1, 1) := by decide +kernel
theorem dX10_beginsRow_15 : decode cX10_beginsRow 15 = .ok (.aload_n 0, 1) := by decide +kernel
theorem dX10_beginsRow_16 : decode cX10_beginsRow 16 = .ok (.getfield 25, 3) := by decide +kernel
theorem dX10_beginsRow_19 : decode cX10_beginsRow 19 = .ok (.iload_n 1, 1) := by decide +kernel
theorem dX10_beginsRow_20 : decode cX10_beginsRow 20 = .ok (.iaload, 1) := by decide +kernel
theorem dX10_beginsRow_21 : decode cX10_beginsRow 21 = .ok (.bipush (-9), 2) := by decide +kernel
theorem dX10_beginsRow_23 : decode cX10_beginsRow 23 = .ok (.if_icmp .eq 12, 3) := by decide +kernel
theorem dX10_beginsRow_26 : decode cX10_beginsRow 26 = .ok (.aload_n 0, 1) := by decide +kernel
theorem dX10_beginsRow_27 : decode cX10_beginsRow 27 = .ok (.getfield 25, 3) := by decide +kernel
theorem dX10_beginsRow_30 : decode cX10_beginsRow 30 = .ok (.iload_n 1, 1) := by decide +kernel
theorem dX10_beginsRow_31 : decode cX10_beginsRow 31 = .ok (.iaload, 1) := by decide +kernel
theorem dX10_beginsRow_32 : decode cX10_beginsRow 32 = .ok (.goto 4, 3) := by decide +kernel
theorem dX10_beginsRow_35 : decode cX10_beginsRow 35 = .ok (.iconst 0, 1) := by decide +kernel
theorem dX10_beginsRow_36 : decode cX10_beginsRow 36 = .ok (.iastore, 1) := by decide +kernel
theorem dX10_beginsRow_37 : decode cX10_beginsRow 37 = .ok (.iinc 1 1, 3) := by decide +kernel
theorem dX10_beginsRow_40 : decode cX10_beginsRow 40 = .ok (.goto (-38), 3) := by decide +kernel
theorem dX10_beginsRow_43 : decode cX10_beginsRow 43 = .ok (.aload_n 0, 1) := by decide +kernel
theorem dX10_beginsRow_44 : decode cX10_beginsRow 44 = .ok (.getfield 138, 3) := by decide +kernel
theorem dX10_beginsRow_47 : decode cX10_beginsRow 47 = .ok (.ifCond .eq 10, 3) := by decide +kernel
theorem dX10_beginsRow_50 : decode cX10_beginsRow 50 = .ok (.aload_n 0, 1) := by decide +kernel
theorem dX10_beginsRow_51 : decode cX10_beginsRow 51 = .ok (.getfield 135, 3) := by decide +kernel
theorem dX10_beginsRow_54 : decode cX10_beginsRow 54 = .ok (.ifCond .le 7, 3) := by decide +kernel
theorem dX10_beginsRow_57 : decode cX10_beginsRow 57 = .ok (.iconst 1, 1) := by decide +kernel
theorem dX10_beginsRow_58 : decode cX10_beginsRow 58 = .ok (.goto 4, 3) := by decide +kernel
theorem dX10_beginsRow_61 : decode cX10_beginsRow 61 = .ok (.iconst 0, 1) := by decide +kernel
theorem dX10_beginsRow_62 : decode cX10_beginsRow 62 = .ok (.ireturn, 1) := by decide +kernel
theorem dX10_nextRow_0 : decode cX10_nextRow 0 = .ok (.aload_n 0, 1) := by decide +kernel
theorem dX10_nextRow_1 : decode cX10_nextRow 1 = .ok (.getfield 138, 3) := by decide +kernel
theorem dX10_nextRow_4 : decode cX10_nextRow 4 = .ok (.iconst 1, 1) := by decide +kernel
theorem dX10_nextRow_5 : decode cX10_nextRow 5 = .ok (.isub, 1) := by decide +kernel
theorem dX10_nextRow_6 : decode cX10_nextRow 6 = .ok (.istore_n 1, 1) := by decide +kernel
theorem dX10_nextRow_7 : decode cX10_nextRow 7 = .ok (.iload_n 1, 1) := by decide +kernel
theorem dX10_nextRow_8 : decode cX10_nextRow 8 = .ok (.ifCond .lt 52, 3) := by decide +kernel
theorem dX10_nextRow_11 : decode cX10_nextRow 11 = .ok (.aload_n 0, 1) := by decide +kernel
theorem dX10_nextRow_12 : decode cX10_nextRow 12 = .ok (.getfield 25, 3) := by decide +kernel
theorem dX10_nextRow_15 : decode cX10_nextRow 15 = .ok (.iload_n 1, 1) := by decide +kernel
theorem dX10_nextRow_16 : decode cX10_nextRow 16 = .ok (.iaload, 1) := by decide +kernel
theorem dX10_nextRow_17 : decode cX10_nextRow 17 = .ok (.bipush (-9), 2) := by decide +kernel
theorem dX10_nextRow_19 : decode cX10_nextRow 19 = .ok (.if_icmp .ne 35, 3) := by decide +kernel
theorem dX10_nextRow_22 : decode cX10_nextRow 22 = .ok (.aload_n 0, 1) := by decide +kernel
theorem dX10_nextRow_23 : decode cX10_nextRow 23 = .ok (.getfield 41, 3) := by decide +kernel
theorem dX10_nextRow_26 : decode cX10_nextRow 26 = .ok (.iload_n 1, 1) := by decide +kernel
theorem dX10_nextRow_27 : decode cX10_nextRow 27 = .ok (.dup2, 1) := by decide +kernel
theorem dX10_nextRow_28 : decode cX10_nextRow 28 = .ok (.iaload, 1) := by decide +kernel
theorem dX10_nextRow_29 : decode cX10_nextRow 29 = .ok (.iconst 1, 1) := by decide +kernel
theorem dX10_nextRow_30 : decode cX10_nextRow 30 = .ok (.iadd, 1) := by decide +kernel
theorem dX10_nextRow_31 : decode cX10_nextRow 31 = .ok (.iastore, 1) := by decide +kernel
theorem dX10_nextRow_32 : decode cX10_nextRow 32 = .ok (.aload_n 0, 1) := by decide +kernel
theorem dX10_nextRow_33 : decode cX10_nextRow 33 = .ok (.getfield 41, 3) := by decide +kernel
theorem dX10_nextRow_36 : decode cX10_nextRow 36 = .ok (.iload_n 1, 1) := by decide +kernel
theorem dX10_nextRow_37 : decode cX10_nextRow 37 = .ok (.iaload, 1) := by decide +kernel
theorem dX10_nextRow_38 : decode cX10_nextRow 38 = .ok (.aload_n 0, 1) := by decide +kernel
theorem dX10_nextRow_39 : decode cX10_nextRow 39 = .ok (.getfield 135, 3) := by decide +kernel
theorem dX10_nextRow_42 : decode cX10_nextRow 42 = .ok (.if_icmp .ge 5, 3) := by decide +kernel
theorem dX10_nextRow_45 : decode cX10_nextRow 45 = .ok (.iconst 1, 1) := by decide +kernel
theorem dX10_nextRow_46 : decode cX10_nextRow 46 = .ok (.ireturn, 1) := by decide +kernel
theorem dX10_nextRow_47 : decode cX10_nextRow 47 = .ok (.aload_n 0, 1) := by decide +kernel
theorem dX10_nextRow_48 : decode cX10_nextRow 48 = .ok (.getfield 41, 3) := by decide +kernel
theorem dX10_nextRow_51 : decode cX10_nextRow 51 = .ok (.iload_n 1, 1) := by decide +kernel
theorem dX10_nextRow_52 : decode cX10_nextRow 52 = .ok (.iconst 0, 1) := by decide +kernel
theorem dX10_nextRow_53 : decode cX10_nextRow 53 = .ok (.iastore, 1) := by decide +kernel
theorem dX10_nextRow_54 : decode cX10_nextRow 54 = .ok (.iinc 1 (-1), 3) := by decide +kernel
theorem dX10_nextRow_57 : decode cX10_nextRow 57 = .ok (.goto (-50), 3) := by decide +kernel
theorem dX10_nextRow_60 : decode cX10_nextRow 60 = .ok (.iconst 0, 1) := by decide +kernel
theorem dX10_nextRow_61 : decode cX10_nextRow 61 = .ok (.ireturn, 1) := by decide +kernel
theorem dX10_pricesTried_0 : decode cX10_pricesTried 0 = .ok (.iconst 0, 1) := by decide +kernel
theorem dX10_pricesTried_1 : decode cX10_pricesTried 1 = .ok (.istore_n 1, 1) := by decide +kernel
theorem dX10_pricesTried_2 : decode cX10_pricesTried 2 = .ok (.iconst 0, 1) := by decide +kernel
theorem dX10_pricesTried_3 : decode cX10_pricesTried 3 = .ok (.istore_n 2, 1) := by decide +kernel
theorem dX10_pricesTried_4 : decode cX10_pricesTried 4 = .ok (.iload_n 2, 1) := by decide +kernel
theorem dX10_pricesTried_5 : decode cX10_pricesTried 5 = .ok (.aload_n 0, 1) := by decide +kernel
theorem dX10_pricesTried_6 : decode cX10_pricesTried 6 = .ok (.getfield 138, 3) := by decide +kernel
theorem dX10_pricesTried_9 : decode cX10_pricesTried 9 = .ok (.if_icmp .ge 23, 3) := by decide +kernel
theorem dX10_pricesTried_12 : decode cX10_pricesTried 12 = .ok (.iload_n 1, 1) := by decide +kernel
theorem dX10_pricesTried_13 : decode cX10_pricesTried 13 = .ok (.aload_n 0, 1) := by decide +kernel
theorem dX10_pricesTried_14 : decode cX10_pricesTried 14 = .ok (.getfield 13, 3) := by decide +kernel
theorem dX10_pricesTried_17 : decode cX10_pricesTried 17 = .ok (.aload_n 0, 1) := by decide +kernel
theorem dX10_pricesTried_18 : decode cX10_pricesTried 18 = .ok (.getfield 41, 3) := by decide +kernel
theorem dX10_pricesTried_21 : decode cX10_pricesTried 21 = .ok (.iload_n 2, 1) := by decide +kernel
theorem dX10_pricesTried_22 : decode cX10_pricesTried 22 = .ok (.iaload, 1) := by decide +kernel
theorem dX10_pricesTried_23 : decode cX10_pricesTried 23 = .ok (.iaload, 1) := by decide +kernel
theorem dX10_pricesTried_24 : decode cX10_pricesTried 24 = .ok (.iadd, 1) := by decide +kernel
theorem dX10_pricesTried_25 : decode cX10_pricesTried 25 = .ok (.istore_n 1, 1) := by decide +kernel
theorem dX10_pricesTried_26 : decode cX10_pricesTried 26 = .ok (.iinc 2 1, 3) := by decide +kernel
theorem dX10_pricesTried_29 : decode cX10_pricesTried 29 = .ok (.goto (-25), 3) := by decide +kernel
theorem dX10_pricesTried_32 : decode cX10_pricesTried 32 = .ok (.iload_n 1, 1) := by decide +kernel
theorem dX10_pricesTried_33 : decode cX10_pricesTried 33 = .ok (.ireturn, 1) := by decide +kernel
theorem dX10_keepsRow_0 : decode cX10_keepsRow 0 = .ok (.iconst 0, 1) := by decide +kernel
theorem dX10_keepsRow_1 : decode cX10_keepsRow 1 = .ok (.istore_n 1, 1) := by decide +kernel
theorem dX10_keepsRow_2 : decode cX10_keepsRow 2 = .ok (.iload_n 1, 1) := by decide +kernel
theorem dX10_keepsRow_3 : decode cX10_keepsRow 3 = .ok (.aload_n 0, 1) := by decide +kernel
theorem dX10_keepsRow_4 : decode cX10_keepsRow 4 = .ok (.getfield 138, 3) := by decide +kernel
theorem dX10_keepsRow_7 : decode cX10_keepsRow 7 = .ok (.if_icmp .ge 21, 3) := by decide +kernel
theorem dX10_keepsRow_10 : decode cX10_keepsRow 10 = .ok (.aload_n 0, 1) := by decide +kernel
theorem dX10_keepsRow_11 : decode cX10_keepsRow 11 = .ok (.getfield 44, 3) := by decide +kernel
theorem dX10_keepsRow_14 : decode cX10_keepsRow 14 = .ok (.iload_n 1, 1) := by decide +kernel
theorem dX10_keepsRow_15 : decode cX10_keepsRow 15 = .ok (.aload_n 0, 1) := by decide +kernel
theorem dX10_keepsRow_16 : decode cX10_keepsRow 16 = .ok (.getfield 41, 3) := by decide +kernel
theorem dX10_keepsRow_19 : decode cX10_keepsRow 19 = .ok (.iload_n 1, 1) := by decide +kernel
theorem dX10_keepsRow_20 : decode cX10_keepsRow 20 = .ok (.iaload, 1) := by decide +kernel
theorem dX10_keepsRow_21 : decode cX10_keepsRow 21 = .ok (.iastore, 1) := by decide +kernel
theorem dX10_keepsRow_22 : decode cX10_keepsRow 22 = .ok (.iinc 1 1, 3) := by decide +kernel
theorem dX10_keepsRow_25 : decode cX10_keepsRow 25 = .ok (.goto (-23), 3) := by decide +kernel
theorem dX10_keepsRow_28 : decode cX10_keepsRow 28 = .ok (.return_, 1) := by decide +kernel
set_option maxRecDepth 20000 in
theorem ggX10_cheapest_X10_isBit : GoodIn wsX10_cheapest wsX10_isBit := goodIn_r _ [6, 7, 8, 5, 9] (by decide +kernel) (by decide +kernel)
set_option maxRecDepth 20000 in
theorem gX10_cheapest_X10_isBit : GoodIn wsX10_cheapest (va_wsS RX10 163 yX10_isBit wsX10_isBit) := goodIn_app (goodIn_of _ (by decide +kernel)) ggX10_cheapest_X10_isBit
set_option maxRecDepth 20000 in
theorem ggX10_cheapest_X10_isHouse : GoodIn wsX10_cheapest wsX10_isHouse := goodIn_r _ [13, 14, 7, 8, 5, 9, 56, 57, 58, 59, 60, 61, 62, 63, 64, 65, 66, 67, 68, 69, 70, 71, 72, 73, 74, 75, 76, 77, 78, 79, 80, 81, 82, 83, 84, 85, 86] (by decide +kernel) (by decide +kernel)
set_option maxRecDepth 20000 in
theorem gX10_cheapest_X10_isHouse : GoodIn wsX10_cheapest (wsV RX10 147 RX10 yX10_isHouse wsX10_isHouse) := goodIn_app (goodIn_of _ (by decide +kernel)) ggX10_cheapest_X10_isHouse
set_option maxRecDepth 20000 in
theorem ggX10_cheapest_X10_beginsRow : GoodIn wsX10_cheapest wsX10_beginsRow := goodIn_r _ [18, 14, 19, 20, 21, 56, 57, 58, 59, 60, 61, 62, 63, 64, 65, 66, 67, 68, 69, 70, 71, 72, 73, 74, 75, 76, 77, 78, 79, 80, 81, 82, 83, 84, 85, 86] (by decide +kernel) (by decide +kernel)
set_option maxRecDepth 20000 in
theorem gX10_cheapest_X10_beginsRow : GoodIn wsX10_cheapest (wsV RX10 172 RX10 yX10_beginsRow wsX10_beginsRow) := goodIn_app (goodIn_of _ (by decide +kernel)) ggX10_cheapest_X10_beginsRow
set_option maxRecDepth 20000 in
theorem ggX10_cheapest_X10_breachesOf : GoodIn wsX10_cheapest wsX10_breachesOf := goodIn_r _ [25, 14, 26, 27, 28, 5, 29, 19, 30, 31, 32, 33, 34, 35, 36, 37, 38, 39, 40, 41, 42, 56, 57, 58, 59, 60, 61, 62, 63, 64, 65, 66, 67, 68, 69, 70, 71, 72, 73, 74, 75, 76, 77, 78, 79, 80, 81, 82, 83, 84, 85, 86] (by decide +kernel) (by decide +kernel)
set_option maxRecDepth 20000 in
theorem gX10_cheapest_X10_breachesOf : GoodIn wsX10_cheapest (wsV RX10 169 RX10 yX10_breachesOf wsX10_breachesOf) := goodIn_app (goodIn_of _ (by decide +kernel)) ggX10_cheapest_X10_breachesOf
set_option maxRecDepth 20000 in
theorem ggX10_cheapest_X10_pricesTried : GoodIn wsX10_cheapest wsX10_pricesTried := goodIn_r _ [46, 14, 47, 19, 56, 57, 58, 59, 60, 61, 62, 63, 64, 65, 66, 67, 68, 69, 70, 71, 72, 73, 74, 75, 76, 77, 78, 79, 80, 81, 82, 83, 84, 85, 86] (by decide +kernel) (by decide +kernel)
set_option maxRecDepth 20000 in
theorem gX10_cheapest_X10_pricesTried : GoodIn wsX10_cheapest (wsV RX10 175 RX10 yX10_pricesTried wsX10_pricesTried) := goodIn_app (goodIn_of _ (by decide +kernel)) ggX10_cheapest_X10_pricesTried
set_option maxRecDepth 20000 in
theorem ggX10_cheapest_X10_keepsRow : GoodIn wsX10_cheapest wsX10_keepsRow := goodIn_r _ [51, 14, 2, 19, 56, 57, 58, 59, 60, 61, 62, 63, 64, 65, 66, 67, 68, 69, 70, 71, 72, 73, 74, 75, 76, 77, 78, 79, 80, 81, 82, 83, 84, 85, 86] (by decide +kernel) (by decide +kernel)
set_option maxRecDepth 20000 in
theorem gX10_cheapest_X10_keepsRow : GoodIn wsX10_cheapest (wsV RX10 179 RX10 yX10_keepsRow wsX10_keepsRow) := goodIn_app (goodIn_of _ (by decide +kernel)) ggX10_cheapest_X10_keepsRow
set_option maxRecDepth 20000 in
theorem ggX10_cheapest_X10_nextRow : GoodIn wsX10_cheapest wsX10_nextRow := goodIn_r _ [55, 14, 20, 19, 21, 56, 57, 58, 59, 60, 61, 62, 63, 64, 65, 66, 67, 68, 69, 70, 71, 72, 73, 74, 75, 76, 77, 78, 79, 80, 81, 82, 83, 84, 85, 86] (by decide +kernel) (by decide +kernel)
set_option maxRecDepth 20000 in
theorem gX10_cheapest_X10_nextRow : GoodIn wsX10_cheapest (wsV RX10 182 RX10 yX10_nextRow wsX10_nextRow) := goodIn_app (goodIn_of _ (by decide +kernel)) ggX10_cheapest_X10_nextRow
theorem dX10_cheapest_0 : decode cX10_cheapest 0 = .ok (.aload_n 0, 1) := by decide +kernel
theorem dX10_cheapest_1 : decode cX10_cheapest 1 = .ok (.iconst 0, 1) := by decide +kernel
theorem dX10_cheapest_2 : decode cX10_cheapest 2 = .ok (.putfield 50, 3) := by decide +kernel
theorem dX10_cheapest_5 : decode cX10_cheapest 5 = .ok (.iload_n 1, 1) := by decide +kernel
theorem dX10_cheapest_6 : decode cX10_cheapest 6 = .ok (.invokestatic 163, 3) := by decide +kernel
theorem dX10_cheapest_9 : decode cX10_cheapest 9 = .ok (.ifCond .eq 16, 3) := by decide +kernel
theorem dX10_cheapest_12 : decode cX10_cheapest 12 = .ok (.iload_n 2, 1) := by decide +kernel
theorem dX10_cheapest_13 : decode cX10_cheapest 13 = .ok (.iconst (-1), 1) := by decide +kernel
theorem dX10_cheapest_14 : decode cX10_cheapest 14 = .ok (.if_icmp .eq 13, 3) := by decide +kernel
theorem dX10_cheapest_17 : decode cX10_cheapest 17 = .ok (.aload_n 0, 1) := by decide +kernel
theorem dX10_cheapest_18 : decode cX10_cheapest 18 = .ok (.iload_n 2, 1) := by decide +kernel
theorem dX10_cheapest_19 : decode cX10_cheapest 19 = .ok (.invokevirtual 147, 3) := by decide +kernel
theorem dX10_cheapest_22 : decode cX10_cheapest 22 = .ok (.ifCond .ne 5, 3) := by decide +kernel
theorem dX10_cheapest_25 : decode cX10_cheapest 25 = .ok (.iconst (-1), 1) := by decide +kernel
theorem dX10_cheapest_26 : decode cX10_cheapest 26 = .ok (.ireturn, 1) := by decide +kernel
theorem dX10_cheapest_27 : decode cX10_cheapest 27 = .ok (.bipush (-9), 2) := by decide +kernel
theorem dX10_cheapest_29 : decode cX10_cheapest 29 = .ok (.istore_n 3, 1) := by decide +kernel
theorem dX10_cheapest_30 : decode cX10_cheapest 30 = .ok (.aload_n 0, 1) := by decide +kernel
theorem dX10_cheapest_31 : decode cX10_cheapest 31 = .ok (.invokevirtual 172, 3) := by decide +kernel
theorem dX10_cheapest_34 : decode cX10_cheapest 34 = .ok (.istore 4, 2) := by decide +kernel
theorem dX10_cheapest_36 : decode cX10_cheapest 36 = .ok (.iload 4, 2) := by decide +kernel
theorem dX10_cheapest_38 : decode cX10_cheapest 38 = .ok (.ifCond .eq 43, 3) := by decide +kernel
theorem dX10_cheapest_41 : decode cX10_cheapest 41 = .ok (.aload_n 0, 1) := by decide +kernel
theorem dX10_cheapest_42 : decode cX10_cheapest 42 = .ok (.iload_n 1, 1) := by decide +kernel
theorem dX10_cheapest_43 : decode cX10_cheapest 43 = .ok (.invokevirtual 169, 3) := by decide +kernel
theorem dX10_cheapest_46 : decode cX10_cheapest 46 = .ok (.ifCond .ne 26, 3) := by decide +kernel
theorem dX10_cheapest_49 : decode cX10_cheapest 49 = .ok (.iload_n 3, 1) := by decide +kernel
theorem dX10_cheapest_50 : decode cX10_cheapest 50 = .ok (.bipush (-9), 2) := by decide +kernel
theorem dX10_cheapest_52 : decode cX10_cheapest 52 = .ok (.if_icmp .eq 11, 3) := by decide +kernel
theorem dX10_cheapest_55 : decode cX10_cheapest 55 = .ok (.aload_n 0, 1) := by decide +kernel
theorem dX10_cheapest_56 : decode cX10_cheapest 56 = .ok (.invokevirtual 175, 3) := by decide +kernel
theorem dX10_cheapest_59 : decode cX10_cheapest 59 = .ok (.iload_n 3, 1) := by decide +kernel
theorem dX10_cheapest_60 : decode cX10_cheapest 60 = .ok (.if_icmp .ge 12, 3) := by decide +kernel
theorem dX10_cheapest_63 : decode cX10_cheapest 63 = .ok (.aload_n 0, 1) := by decide +kernel
theorem dX10_cheapest_64 : decode cX10_cheapest 64 = .ok (.invokevirtual 175, 3) := by decide +kernel
theorem dX10_cheapest_67 : decode cX10_cheapest 67 = .ok (.istore_n 3, 1) := by decide +kernel
theorem dX10_cheapest_68 : decode cX10_cheapest 68 = .ok (.aload_n 0, 1) := by decide +kernel
theorem dX10_cheapest_69 : decode cX10_cheapest 69 = .ok (.invokevirtual 179, 3) := by decide +kernel
theorem dX10_cheapest_72 : decode cX10_cheapest 72 = .ok (.aload_n 0, 1) := by decide +kernel
theorem dX10_cheapest_73 : decode cX10_cheapest 73 = .ok (.invokevirtual 182, 3) := by decide +kernel
theorem dX10_cheapest_76 : decode cX10_cheapest 76 = .ok (.istore 4, 2) := by decide +kernel
theorem dX10_cheapest_78 : decode cX10_cheapest 78 = .ok (.goto (-42), 3) := by decide +kernel
theorem dX10_cheapest_81 : decode cX10_cheapest 81 = .ok (.iload_n 3, 1) := by decide +kernel
theorem dX10_cheapest_82 : decode cX10_cheapest 82 = .ok (.bipush (-9), 2) := by decide +kernel
theorem dX10_cheapest_84 : decode cX10_cheapest 84 = .ok (.if_icmp .eq 7, 3) := by decide +kernel
theorem dX10_cheapest_87 : decode cX10_cheapest 87 = .ok (.iload_n 2, 1) := by decide +kernel
theorem dX10_cheapest_88 : decode cX10_cheapest 88 = .ok (.ifCond .ge 7, 3) := by decide +kernel
theorem dX10_cheapest_91 : decode cX10_cheapest 91 = .ok (.iload_n 3, 1) := by decide +kernel
theorem dX10_cheapest_92 : decode cX10_cheapest 92 = .ok (.goto 9, 3) := by decide +kernel
theorem dX10_cheapest_95 : decode cX10_cheapest 95 = .ok (.aload_n 0, 1) := by decide +kernel
theorem dX10_cheapest_96 : decode cX10_cheapest 96 = .ok (.getfield 44, 3) := by decide +kernel
theorem dX10_cheapest_99 : decode cX10_cheapest 99 = .ok (.iload_n 2, 1) := by decide +kernel
theorem dX10_cheapest_100 : decode cX10_cheapest 100 = .ok (.iaload, 1) := by decide +kernel
theorem dX10_cheapest_101 : decode cX10_cheapest 101 = .ok (.ireturn, 1) := by decide +kernel
set_option maxRecDepth 20000 in
theorem ggX10_ways_X10_isBit : GoodIn wsX10_ways wsX10_isBit := goodIn_r _ [5, 6, 7, 4, 8] (by decide +kernel) (by decide +kernel)
set_option maxRecDepth 20000 in
theorem gX10_ways_X10_isBit : GoodIn wsX10_ways (va_wsS RX10 163 yX10_isBit wsX10_isBit) := goodIn_app (goodIn_of _ (by decide +kernel)) ggX10_ways_X10_isBit
set_option maxRecDepth 20000 in
theorem ggX10_ways_X10_beginsRow : GoodIn wsX10_ways wsX10_beginsRow := goodIn_r _ [12, 13, 14, 15, 16, 42, 43, 44, 45, 46, 47, 48, 49, 50, 51, 52, 53, 54, 55, 56, 57, 58, 59, 60, 61, 62, 63, 64, 65, 66, 67, 68, 69, 70, 71, 72] (by decide +kernel) (by decide +kernel)
set_option maxRecDepth 20000 in
theorem gX10_ways_X10_beginsRow : GoodIn wsX10_ways (wsV RX10 172 RX10 yX10_beginsRow wsX10_beginsRow) := goodIn_app (goodIn_of _ (by decide +kernel)) ggX10_ways_X10_beginsRow
set_option maxRecDepth 20000 in
theorem ggX10_ways_X10_breachesOf : GoodIn wsX10_ways wsX10_breachesOf := goodIn_r _ [20, 13, 21, 22, 23, 4, 24, 14, 25, 26, 27, 28, 29, 30, 31, 32, 33, 34, 35, 36, 37, 42, 43, 44, 45, 46, 47, 48, 49, 50, 51, 52, 53, 54, 55, 56, 57, 58, 59, 60, 61, 62, 63, 64, 65, 66, 67, 68, 69, 70, 71, 72] (by decide +kernel) (by decide +kernel)
set_option maxRecDepth 20000 in
theorem gX10_ways_X10_breachesOf : GoodIn wsX10_ways (wsV RX10 169 RX10 yX10_breachesOf wsX10_breachesOf) := goodIn_app (goodIn_of _ (by decide +kernel)) ggX10_ways_X10_breachesOf
set_option maxRecDepth 20000 in
theorem ggX10_ways_X10_nextRow : GoodIn wsX10_ways wsX10_nextRow := goodIn_r _ [41, 13, 15, 14, 16, 42, 43, 44, 45, 46, 47, 48, 49, 50, 51, 52, 53, 54, 55, 56, 57, 58, 59, 60, 61, 62, 63, 64, 65, 66, 67, 68, 69, 70, 71, 72] (by decide +kernel) (by decide +kernel)
set_option maxRecDepth 20000 in
theorem gX10_ways_X10_nextRow : GoodIn wsX10_ways (wsV RX10 182 RX10 yX10_nextRow wsX10_nextRow) := goodIn_app (goodIn_of _ (by decide +kernel)) ggX10_ways_X10_nextRow
theorem dX10_ways_0 : decode cX10_ways 0 = .ok (.aload_n 0, 1) := by decide +kernel
theorem dX10_ways_1 : decode cX10_ways 1 = .ok (.iconst 0, 1) := by decide +kernel
theorem dX10_ways_2 : decode cX10_ways 2 = .ok (.putfield 50, 3) := by decide +kernel
theorem dX10_ways_5 : decode cX10_ways 5 = .ok (.iload_n 1, 1) := by decide +kernel
theorem dX10_ways_6 : decode cX10_ways 6 = .ok (.invokestatic 163, 3) := by decide +kernel
theorem dX10_ways_9 : decode cX10_ways 9 = .ok (.ifCond .ne 5, 3) := by decide +kernel
theorem dX10_ways_12 : decode cX10_ways 12 = .ok (.iconst (-1), 1) := by decide +kernel
theorem dX10_ways_13 : decode cX10_ways 13 = .ok (.ireturn, 1) := by decide +kernel
theorem dX10_ways_14 : decode cX10_ways 14 = .ok (.iconst 0, 1) := by decide +kernel
theorem dX10_ways_15 : decode cX10_ways 15 = .ok (.istore_n 2, 1) := by decide +kernel
theorem dX10_ways_16 : decode cX10_ways 16 = .ok (.aload_n 0, 1) := by decide +kernel
theorem dX10_ways_17 : decode cX10_ways 17 = .ok (.invokevirtual 172, 3) := by decide +kernel
theorem dX10_ways_20 : decode cX10_ways 20 = .ok (.istore_n 3, 1) := by decide +kernel
theorem dX10_ways_21 : decode cX10_ways 21 = .ok (.iload_n 3, 1) := by decide +kernel
theorem dX10_ways_22 : decode cX10_ways 22 = .ok (.ifCond .eq 27, 3) := by decide +kernel
theorem dX10_ways_25 : decode cX10_ways 25 = .ok (.iload_n 2, 1) := by decide +kernel
theorem dX10_ways_26 : decode cX10_ways 26 = .ok (.aload_n 0, 1) := by decide +kernel
theorem dX10_ways_27 : decode cX10_ways 27 = .ok (.iload_n 1, 1) := by decide +kernel
theorem dX10_ways_28 : decode cX10_ways 28 = .ok (.invokevirtual 169, 3) := by decide +kernel
theorem dX10_ways_31 : decode cX10_ways 31 = .ok (.ifCond .ne 7, 3) := by decide +kernel
theorem dX10_ways_34 : decode cX10_ways 34 = .ok (.iconst 1, 1) := by decide +kernel
theorem dX10_ways_35 : decode cX10_ways 35 = .ok (.goto 4, 3) := by decide +kernel
theorem dX10_ways_38 : decode cX10_ways 38 = .ok (.iconst 0, 1) := by decide +kernel
theorem dX10_ways_39 : decode cX10_ways 39 = .ok (.iadd, 1) := by decide +kernel
theorem dX10_ways_40 : decode cX10_ways 40 = .ok (.istore_n 2, 1) := by decide +kernel
theorem dX10_ways_41 : decode cX10_ways 41 = .ok (.aload_n 0, 1) := by decide +kernel
theorem dX10_ways_42 : decode cX10_ways 42 = .ok (.invokevirtual 182, 3) := by decide +kernel
theorem dX10_ways_45 : decode cX10_ways 45 = .ok (.istore_n 3, 1) := by decide +kernel
theorem dX10_ways_46 : decode cX10_ways 46 = .ok (.goto (-25), 3) := by decide +kernel
theorem dX10_ways_49 : decode cX10_ways 49 = .ok (.iload_n 2, 1) := by decide +kernel
theorem dX10_ways_50 : decode cX10_ways 50 = .ok (.ireturn, 1) := by decide +kernel
set_option maxRecDepth 20000 in
theorem ggX10_must_X10_isBit : GoodIn wsX10_must wsX10_isBit := goodIn_r _ [6, 7, 8, 5, 9] (by decide +kernel) (by decide +kernel)
set_option maxRecDepth 20000 in
theorem gX10_must_X10_isBit : GoodIn wsX10_must (va_wsS RX10 163 yX10_isBit wsX10_isBit) := goodIn_app (goodIn_of _ (by decide +kernel)) ggX10_must_X10_isBit
set_option maxRecDepth 20000 in
theorem ggX10_must_X10_isHouse : GoodIn wsX10_must wsX10_isHouse := goodIn_r _ [13, 14, 7, 8, 5, 9, 46, 47, 48, 49, 50, 51, 52, 53, 54, 55, 56, 57, 58, 59, 60, 61, 62, 63, 64, 65, 66, 67, 68, 69, 70, 71, 72, 73, 74, 75, 76] (by decide +kernel) (by decide +kernel)
set_option maxRecDepth 20000 in
theorem gX10_must_X10_isHouse : GoodIn wsX10_must (wsV RX10 147 RX10 yX10_isHouse wsX10_isHouse) := goodIn_app (goodIn_of _ (by decide +kernel)) ggX10_must_X10_isHouse
set_option maxRecDepth 20000 in
theorem ggX10_must_X10_beginsRow : GoodIn wsX10_must wsX10_beginsRow := goodIn_r _ [18, 14, 2, 19, 20, 46, 47, 48, 49, 50, 51, 52, 53, 54, 55, 56, 57, 58, 59, 60, 61, 62, 63, 64, 65, 66, 67, 68, 69, 70, 71, 72, 73, 74, 75, 76] (by decide +kernel) (by decide +kernel)
set_option maxRecDepth 20000 in
theorem gX10_must_X10_beginsRow : GoodIn wsX10_must (wsV RX10 172 RX10 yX10_beginsRow wsX10_beginsRow) := goodIn_app (goodIn_of _ (by decide +kernel)) ggX10_must_X10_beginsRow
set_option maxRecDepth 20000 in
theorem ggX10_must_X10_breachesOf : GoodIn wsX10_must wsX10_breachesOf := goodIn_r _ [24, 14, 25, 26, 27, 5, 28, 2, 29, 30, 31, 32, 33, 34, 35, 36, 37, 38, 39, 40, 41, 46, 47, 48, 49, 50, 51, 52, 53, 54, 55, 56, 57, 58, 59, 60, 61, 62, 63, 64, 65, 66, 67, 68, 69, 70, 71, 72, 73, 74, 75, 76] (by decide +kernel) (by decide +kernel)
set_option maxRecDepth 20000 in
theorem gX10_must_X10_breachesOf : GoodIn wsX10_must (wsV RX10 169 RX10 yX10_breachesOf wsX10_breachesOf) := goodIn_app (goodIn_of _ (by decide +kernel)) ggX10_must_X10_breachesOf
set_option maxRecDepth 20000 in
theorem ggX10_must_X10_nextRow : GoodIn wsX10_must wsX10_nextRow := goodIn_r _ [45, 14, 19, 2, 20, 46, 47, 48, 49, 50, 51, 52, 53, 54, 55, 56, 57, 58, 59, 60, 61, 62, 63, 64, 65, 66, 67, 68, 69, 70, 71, 72, 73, 74, 75, 76] (by decide +kernel) (by decide +kernel)
set_option maxRecDepth 20000 in
theorem gX10_must_X10_nextRow : GoodIn wsX10_must (wsV RX10 182 RX10 yX10_nextRow wsX10_nextRow) := goodIn_app (goodIn_of _ (by decide +kernel)) ggX10_must_X10_nextRow
theorem dX10_must_0 : decode cX10_must 0 = .ok (.aload_n 0, 1) := by decide +kernel
theorem dX10_must_1 : decode cX10_must 1 = .ok (.iconst 0, 1) := by decide +kernel
theorem dX10_must_2 : decode cX10_must 2 = .ok (.putfield 50, 3) := by decide +kernel
theorem dX10_must_5 : decode cX10_must 5 = .ok (.iload_n 1, 1) := by decide +kernel
theorem dX10_must_6 : decode cX10_must 6 = .ok (.invokestatic 163, 3) := by decide +kernel
theorem dX10_must_9 : decode cX10_must 9 = .ok (.ifCond .eq 11, 3) := by decide +kernel
theorem dX10_must_12 : decode cX10_must 12 = .ok (.aload_n 0, 1) := by decide +kernel
theorem dX10_must_13 : decode cX10_must 13 = .ok (.iload_n 2, 1) := by decide +kernel
theorem dX10_must_14 : decode cX10_must 14 = .ok (.invokevirtual 147, 3) := by decide +kernel
theorem dX10_must_17 : decode cX10_must 17 = .ok (.ifCond .ne 5, 3) := by decide +kernel
theorem dX10_must_20 : decode cX10_must 20 = .ok (.iconst (-1), 1) := by decide +kernel
theorem dX10_must_21 : decode cX10_must 21 = .ok (.ireturn, 1) := by decide +kernel
theorem dX10_must_22 : decode cX10_must 22 = .ok (.iconst 0, 1) := by decide +kernel
theorem dX10_must_23 : decode cX10_must 23 = .ok (.istore_n 3, 1) := by decide +kernel
theorem dX10_must_24 : decode cX10_must 24 = .ok (.aload_n 0, 1) := by decide +kernel
theorem dX10_must_25 : decode cX10_must 25 = .ok (.invokevirtual 172, 3) := by decide +kernel
theorem dX10_must_28 : decode cX10_must 28 = .ok (.istore 4, 2) := by decide +kernel
theorem dX10_must_30 : decode cX10_must 30 = .ok (.iload 4, 2) := by decide +kernel
theorem dX10_must_32 : decode cX10_must 32 = .ok (.ifCond .eq 35, 3) := by decide +kernel
theorem dX10_must_35 : decode cX10_must 35 = .ok (.iload_n 3, 1) := by decide +kernel
theorem dX10_must_36 : decode cX10_must 36 = .ok (.aload_n 0, 1) := by decide +kernel
theorem dX10_must_37 : decode cX10_must 37 = .ok (.iload_n 1, 1) := by decide +kernel
theorem dX10_must_38 : decode cX10_must 38 = .ok (.invokevirtual 169, 3) := by decide +kernel
theorem dX10_must_41 : decode cX10_must 41 = .ok (.ifCond .ne 14, 3) := by decide +kernel
theorem dX10_must_44 : decode cX10_must 44 = .ok (.iconst 1, 1) := by decide +kernel
theorem dX10_must_45 : decode cX10_must 45 = .ok (.aload_n 0, 1) := by decide +kernel
theorem dX10_must_46 : decode cX10_must 46 = .ok (.getfield 41, 3) := by decide +kernel
theorem dX10_must_49 : decode cX10_must 49 = .ok (.iload_n 2, 1) := by decide +kernel
theorem dX10_must_50 : decode cX10_must 50 = .ok (.iaload, 1) := by decide +kernel
theorem dX10_must_51 : decode cX10_must 51 = .ok (.ishl, 1) := by decide +kernel
theorem dX10_must_52 : decode cX10_must 52 = .ok (.goto 4, 3) := by decide +kernel
theorem dX10_must_55 : decode cX10_must 55 = .ok (.iconst 0, 1) := by decide +kernel
theorem dX10_must_56 : decode cX10_must 56 = .ok (.ior, 1) := by decide +kernel
theorem dX10_must_57 : decode cX10_must 57 = .ok (.istore_n 3, 1) := by decide +kernel
theorem dX10_must_58 : decode cX10_must 58 = .ok (.aload_n 0, 1) := by decide +kernel
theorem dX10_must_59 : decode cX10_must 59 = .ok (.invokevirtual 182, 3) := by decide +kernel
theorem dX10_must_62 : decode cX10_must 62 = .ok (.istore 4, 2) := by decide +kernel
theorem dX10_must_64 : decode cX10_must 64 = .ok (.goto (-34), 3) := by decide +kernel
theorem dX10_must_67 : decode cX10_must 67 = .ok (.iload_n 3, 1) := by decide +kernel
theorem dX10_must_68 : decode cX10_must 68 = .ok (.iconst 1, 1) := by decide +kernel
theorem dX10_must_69 : decode cX10_must 69 = .ok (.if_icmp .ne 7, 3) := by decide +kernel
theorem dX10_must_72 : decode cX10_must 72 = .ok (.iconst 0, 1) := by decide +kernel
theorem dX10_must_73 : decode cX10_must 73 = .ok (.goto 33, 3) := by decide +kernel
theorem dX10_must_76 : decode cX10_must 76 = .ok (.iload_n 3, 1) := by decide +kernel
theorem dX10_must_77 : decode cX10_must 77 = .ok (.iconst 2, 1) := by decide +kernel
theorem dX10_must_78 : decode cX10_must 78 = .ok (.if_icmp .ne 7, 3) := by decide +kernel
theorem dX10_must_81 : decode cX10_must 81 = .ok (.iconst 1, 1) := by decide +kernel
theorem dX10_must_82 : decode cX10_must 82 = .ok (.goto 24, 3) := by decide +kernel
theorem dX10_must_85 : decode cX10_must 85 = .ok (.iload_n 3, 1) := by decide +kernel
theorem dX10_must_86 : decode cX10_must 86 = .ok (.iconst 4, 1) := by decide +kernel
theorem dX10_must_87 : decode cX10_must 87 = .ok (.if_icmp .ne 7, 3) := by decide +kernel
theorem dX10_must_90 : decode cX10_must 90 = .ok (.iconst 2, 1) := by decide +kernel
theorem dX10_must_91 : decode cX10_must 91 = .ok (.goto 15, 3) := by decide +kernel
theorem dX10_must_94 : decode cX10_must 94 = .ok (.iload_n 3, 1) := by decide +kernel
theorem dX10_must_95 : decode cX10_must 95 = .ok (.bipush 8, 2) := by decide +kernel
theorem dX10_must_97 : decode cX10_must 97 = .ok (.if_icmp .ne 7, 3) := by decide +kernel
theorem dX10_must_100 : decode cX10_must 100 = .ok (.iconst 3, 1) := by decide +kernel
theorem dX10_must_101 : decode cX10_must 101 = .ok (.goto 5, 3) := by decide +kernel
theorem dX10_must_104 : decode cX10_must 104 = .ok (.bipush (-9), 2) := by decide +kernel
theorem dX10_must_106 : decode cX10_must 106 = .ok (.ireturn, 1) := by decide +kernel
theorem dX10_canBurn_0 : decode cX10_canBurn 0 = .ok (.aload_n 0, 1) := by decide +kernel
theorem dX10_canBurn_1 : decode cX10_canBurn 1 = .ok (.getfield 41, 3) := by decide +kernel
theorem dX10_canBurn_4 : decode cX10_canBurn 4 = .ok (.iload_n 1, 1) := by decide +kernel
theorem dX10_canBurn_5 : decode cX10_canBurn 5 = .ok (.iaload, 1) := by decide +kernel
theorem dX10_canBurn_6 : decode cX10_canBurn 6 = .ok (.bipush (-9), 2) := by decide +kernel
theorem dX10_canBurn_8 : decode cX10_canBurn 8 = .ok (.if_icmp .eq 21, 3) := by decide +kernel
theorem dX10_canBurn_11 : decode cX10_canBurn 11 = .ok (.aload_n 0, 1) := by decide +kernel
theorem dX10_canBurn_12 : decode cX10_canBurn 12 = .ok (.getfield 16, 3) := by decide +kernel
theorem dX10_canBurn_15 : decode cX10_canBurn 15 = .ok (.aload_n 0, 1) := by decide +kernel
theorem dX10_canBurn_16 : decode cX10_canBurn 16 = .ok (.getfield 41, 3) := by decide +kernel
theorem dX10_canBurn_19 : decode cX10_canBurn 19 = .ok (.iload_n 1, 1) := by decide +kernel
theorem dX10_canBurn_20 : decode cX10_canBurn 20 = .ok (.iaload, 1) := by decide +kernel
theorem dX10_canBurn_21 : decode cX10_canBurn 21 = .ok (.iaload, 1) := by decide +kernel
theorem dX10_canBurn_22 : decode cX10_canBurn 22 = .ok (.ifCond .le 7, 3) := by decide +kernel
theorem dX10_canBurn_25 : decode cX10_canBurn 25 = .ok (.iconst 1, 1) := by decide +kernel
theorem dX10_canBurn_26 : decode cX10_canBurn 26 = .ok (.goto 4, 3) := by decide +kernel
theorem dX10_canBurn_29 : decode cX10_canBurn 29 = .ok (.iconst 0, 1) := by decide +kernel
theorem dX10_canBurn_30 : decode cX10_canBurn 30 = .ok (.ireturn, 1) := by decide +kernel
theorem dX10_throwsTo_0 : decode cX10_throwsTo 0 = .ok (.iload_n 3, 1) := by decide +kernel
theorem dX10_throwsTo_1 : decode cX10_throwsTo 1 = .ok (.iconst 1, 1) := by decide +kernel
theorem dX10_throwsTo_2 : decode cX10_throwsTo 2 = .ok (.if_icmp .ne 7, 3) := by decide +kernel
theorem dX10_throwsTo_5 : decode cX10_throwsTo 5 = .ok (.iconst 2, 1) := by decide +kernel
theorem dX10_throwsTo_6 : decode cX10_throwsTo 6 = .ok (.goto 14, 3) := by decide +kernel
theorem dX10_throwsTo_9 : decode cX10_throwsTo 9 = .ok (.iload_n 3, 1) := by decide +kernel
theorem dX10_throwsTo_10 : decode cX10_throwsTo 10 = .ok (.iconst 3, 1) := by decide +kernel
theorem dX10_throwsTo_11 : decode cX10_throwsTo 11 = .ok (.if_icmp .ne 8, 3) := by decide +kernel
theorem dX10_throwsTo_14 : decode cX10_throwsTo 14 = .ok (.bipush (-2), 2) := by decide +kernel
theorem dX10_throwsTo_16 : decode cX10_throwsTo 16 = .ok (.goto 4, 3) := by decide +kernel
theorem dX10_throwsTo_19 : decode cX10_throwsTo 19 = .ok (.iconst 0, 1) := by decide +kernel
theorem dX10_throwsTo_20 : decode cX10_throwsTo 20 = .ok (.istore 4, 2) := by decide +kernel
theorem dX10_throwsTo_22 : decode cX10_throwsTo 22 = .ok (.iload_n 3, 1) := by decide +kernel
theorem dX10_throwsTo_23 : decode cX10_throwsTo 23 = .ok (.iconst 2, 1) := by decide +kernel
theorem dX10_throwsTo_24 : decode cX10_throwsTo 24 = .ok (.if_icmp .ne 7, 3) := by decide +kernel
theorem dX10_throwsTo_27 : decode cX10_throwsTo 27 = .ok (.iconst 2, 1) := by decide +kernel
theorem dX10_throwsTo_28 : decode cX10_throwsTo 28 = .ok (.goto 14, 3) := by decide +kernel
theorem dX10_throwsTo_31 : decode cX10_throwsTo 31 = .ok (.iload_n 3, 1) := by decide +kernel
theorem dX10_throwsTo_32 : decode cX10_throwsTo 32 = .ok (.iconst 4, 1) := by decide +kernel
theorem dX10_throwsTo_33 : decode cX10_throwsTo 33 = .ok (.if_icmp .ne 8, 3) := by decide +kernel
theorem dX10_throwsTo_36 : decode cX10_throwsTo 36 = .ok (.bipush (-2), 2) := by decide +kernel
theorem dX10_throwsTo_38 : decode cX10_throwsTo 38 = .ok (.goto 4, 3) := by decide +kernel
theorem dX10_throwsTo_41 : decode cX10_throwsTo 41 = .ok (.iconst 0, 1) := by decide +kernel
theorem dX10_throwsTo_42 : decode cX10_throwsTo 42 = .ok (.istore 5, 2) := by decide +kernel
theorem dX10_throwsTo_44 : decode cX10_throwsTo 44 = .ok (.iload_n 3, 1) := by decide +kernel
theorem dX10_throwsTo_45 : decode cX10_throwsTo 45 = .ok (.ifCond .le 43, 3) := by decide +kernel
theorem dX10_throwsTo_48 : decode cX10_throwsTo 48 = .ok (.aload_n 0, 1) := by decide +kernel
theorem dX10_throwsTo_49 : decode cX10_throwsTo 49 = .ok (.getfield 19, 3) := by decide +kernel
theorem dX10_throwsTo_52 : decode cX10_throwsTo 52 = .ok (.iload_n 2, 1) := by decide +kernel
theorem dX10_throwsTo_53 : decode cX10_throwsTo 53 = .ok (.iaload, 1) := by decide +kernel
theorem dX10_throwsTo_54 : decode cX10_throwsTo 54 = .ok (.aload_n 0, 1) := by decide +kernel
theorem dX10_throwsTo_55 : decode cX10_throwsTo 55 = .ok (.getfield 19, 3) := by decide +kernel
theorem dX10_throwsTo_58 : decode cX10_throwsTo 58 = .ok (.iload_n 1, 1) := by decide +kernel
theorem dX10_throwsTo_59 : decode cX10_throwsTo 59 = .ok (.iaload, 1) := by decide +kernel
theorem dX10_throwsTo_60 : decode cX10_throwsTo 60 = .ok (.isub, 1) := by decide +kernel
theorem dX10_throwsTo_61 : decode cX10_throwsTo 61 = .ok (.iload 4, 2) := by decide +kernel
theorem dX10_throwsTo_63 : decode cX10_throwsTo 63 = .ok (.if_icmp .ne 25, 3) := by decide +kernel
theorem dX10_throwsTo_66 : decode cX10_throwsTo 66 = .ok (.aload_n 0, 1) := by decide +kernel
theorem dX10_throwsTo_67 : decode cX10_throwsTo 67 = .ok (.getfield 22, 3) := by decide +kernel
theorem dX10_throwsTo_70 : decode cX10_throwsTo 70 = .ok (.iload_n 2, 1) := by decide +kernel
theorem dX10_throwsTo_71 : decode cX10_throwsTo 71 = .ok (.iaload, 1) := by decide +kernel
theorem dX10_throwsTo_72 : decode cX10_throwsTo 72 = .ok (.aload_n 0, 1) := by decide +kernel
theorem dX10_throwsTo_73 : decode cX10_throwsTo 73 = .ok (.getfield 22, 3) := by decide +kernel
theorem dX10_throwsTo_76 : decode cX10_throwsTo 76 = .ok (.iload_n 1, 1) := by decide +kernel
theorem dX10_throwsTo_77 : decode cX10_throwsTo 77 = .ok (.iaload, 1) := by decide +kernel
theorem dX10_throwsTo_78 : decode cX10_throwsTo 78 = .ok (.isub, 1) := by decide +kernel
theorem dX10_throwsTo_79 : decode cX10_throwsTo 79 = .ok (.iload 5, 2) := by decide +kernel
theorem dX10_throwsTo_81 : decode cX10_throwsTo 81 = .ok (.if_icmp .ne 7, 3) := by decide +kernel
theorem dX10_throwsTo_84 : decode cX10_throwsTo 84 = .ok (.iconst 1, 1) := by decide +kernel
theorem dX10_throwsTo_85 : decode cX10_throwsTo 85 = .ok (.goto 4, 3) := by decide +kernel
theorem dX10_throwsTo_88 : decode cX10_throwsTo 88 = .ok (.iconst 0, 1) := by decide +kernel
theorem dX10_throwsTo_89 : decode cX10_throwsTo 89 = .ok (.ireturn, 1) := by decide +kernel
set_option maxRecDepth 20000 in
theorem ggX10_burns_X10_touch : GoodIn wsX10_burns wsX10_touch := goodIn_r _ [13, 14, 15, 16, 17, 12, 18, 23, 24, 25, 26, 27, 28, 29, 30, 31, 32, 33, 34, 35, 36, 37, 38, 39, 40, 41, 42, 43, 44, 45, 46, 47, 48, 49, 50, 51, 52, 53] (by decide +kernel) (by decide +kernel)
set_option maxRecDepth 20000 in
theorem gX10_burns_X10_touch : GoodIn wsX10_burns (wsV RX10 144 RX10 yX10_touch wsX10_touch) := goodIn_app (goodIn_of _ (by decide +kernel)) ggX10_burns_X10_touch
set_option maxRecDepth 20000 in
theorem ggX10_burns_X10_throwsTo : GoodIn wsX10_burns wsX10_throwsTo := goodIn_r _ [22, 14, 15, 23, 24, 25, 26, 27, 28, 29, 30, 31, 32, 33, 34, 35, 36, 37, 38, 39, 40, 41, 42, 43, 44, 45, 46, 47, 48, 49, 50, 51, 52, 53] (by decide +kernel) (by decide +kernel)
set_option maxRecDepth 20000 in
theorem gX10_burns_X10_throwsTo : GoodIn wsX10_burns (wsV RX10 185 RX10 yX10_throwsTo wsX10_throwsTo) := goodIn_app (goodIn_of _ (by decide +kernel)) ggX10_burns_X10_throwsTo
theorem dX10_burns_0 : decode cX10_burns 0 = .ok (.iconst 0, 1) := by decide +kernel
theorem dX10_burns_1 : decode cX10_burns 1 = .ok (.istore_n 3, 1) := by decide +kernel
theorem dX10_burns_2 : decode cX10_burns 2 = .ok (.iload_n 3, 1) := by decide +kernel
theorem dX10_burns_3 : decode cX10_burns 3 = .ok (.bipush 8, 2) := by decide +kernel
theorem dX10_burns_5 : decode cX10_burns 5 = .ok (.if_icmp .ge 26, 3) := by decide +kernel
theorem dX10_burns_8 : decode cX10_burns 8 = .ok (.aload_n 0, 1) := by decide +kernel
theorem dX10_burns_9 : decode cX10_burns 9 = .ok (.getfield 47, 3) := by decide +kernel
theorem dX10_burns_12 : decode cX10_burns 12 = .ok (.iload_n 3, 1) := by decide +kernel
theorem dX10_burns_13 : decode cX10_burns 13 = .ok (.iload_n 3, 1) := by decide +kernel
theorem dX10_burns_14 : decode cX10_burns 14 = .ok (.iload_n 1, 1) := by decide +kernel
theorem dX10_burns_15 : decode cX10_burns 15 = .ok (.if_icmp .ne 7, 3) := by decide +kernel
theorem dX10_burns_18 : decode cX10_burns 18 = .ok (.iconst 0, 1) := by decide +kernel
theorem dX10_burns_19 : decode cX10_burns 19 = .ok (.goto 5, 3) := by decide +kernel
theorem dX10_burns_22 : decode cX10_burns 22 = .ok (.bipush (-9), 2) := by decide +kernel
theorem dX10_burns_24 : decode cX10_burns 24 = .ok (.iastore, 1) := by decide +kernel
theorem dX10_burns_25 : decode cX10_burns 25 = .ok (.iinc 3 1, 3) := by decide +kernel
theorem dX10_burns_28 : decode cX10_burns 28 = .ok (.goto (-26), 3) := by decide +kernel
theorem dX10_burns_31 : decode cX10_burns 31 = .ok (.iconst 1, 1) := by decide +kernel
theorem dX10_burns_32 : decode cX10_burns 32 = .ok (.istore_n 3, 1) := by decide +kernel
theorem dX10_burns_33 : decode cX10_burns 33 = .ok (.iload_n 3, 1) := by decide +kernel
theorem dX10_burns_34 : decode cX10_burns 34 = .ok (.bipush 99, 2) := by decide +kernel
theorem dX10_burns_36 : decode cX10_burns 36 = .ok (.if_icmp .ge 196, 3) := by decide +kernel
theorem dX10_burns_39 : decode cX10_burns 39 = .ok (.iconst 0, 1) := by decide +kernel
theorem dX10_burns_40 : decode cX10_burns 40 = .ok (.istore 4, 2) := by decide +kernel
theorem dX10_burns_42 : decode cX10_burns 42 = .ok (.iload 4, 2) := by decide +kernel
theorem dX10_burns_44 : decode cX10_burns 44 = .ok (.aload_n 0, 1) := by decide +kernel
theorem dX10_burns_45 : decode cX10_burns 45 = .ok (.getfield 138, 3) := by decide +kernel
theorem dX10_burns_48 : decode cX10_burns 48 = .ok (.if_icmp .ge 178, 3) := by decide +kernel
theorem dX10_burns_51 : decode cX10_burns 51 = .ok (.iconst 0, 1) := by decide +kernel
theorem dX10_burns_52 : decode cX10_burns 52 = .ok (.istore 5, 2) := by decide +kernel
theorem dX10_burns_54 : decode cX10_burns 54 = .ok (.iconst 0, 1) := by decide +kernel
theorem dX10_burns_55 : decode cX10_burns 55 = .ok (.istore 6, 2) := by decide +kernel
theorem dX10_burns_57 : decode cX10_burns 57 = .ok (.iload 6, 2) := by decide +kernel
theorem dX10_burns_59 : decode cX10_burns 59 = .ok (.aload_n 0, 1) := by decide +kernel
theorem dX10_burns_60 : decode cX10_burns 60 = .ok (.getfield 138, 3) := by decide +kernel
theorem dX10_burns_63 : decode cX10_burns 63 = .ok (.if_icmp .ge 122, 3) := by decide +kernel
theorem dX10_burns_66 : decode cX10_burns 66 = .ok (.aload_n 0, 1) := by decide +kernel
theorem dX10_burns_67 : decode cX10_burns 67 = .ok (.getfield 47, 3) := by decide +kernel
theorem dX10_burns_70 : decode cX10_burns 70 = .ok (.iload 6, 2) := by decide +kernel
theorem dX10_burns_72 : decode cX10_burns 72 = .ok (.iaload, 1) := by decide +kernel
theorem dX10_burns_73 : decode cX10_burns 73 = .ok (.bipush (-9), 2) := by decide +kernel
theorem dX10_burns_75 : decode cX10_burns 75 = .ok (.if_icmp .eq 44, 3) := by decide +kernel
theorem dX10_burns_78 : decode cX10_burns 78 = .ok (.aload_n 0, 1) := by decide +kernel
theorem dX10_burns_79 : decode cX10_burns 79 = .ok (.getfield 47, 3) := by decide +kernel
theorem dX10_burns_82 : decode cX10_burns 82 = .ok (.iload 6, 2) := by decide +kernel
theorem dX10_burns_84 : decode cX10_burns 84 = .ok (.iaload, 1) := by decide +kernel
theorem dX10_burns_85 : decode cX10_burns 85 = .ok (.iload_n 3, 1) := by decide +kernel
theorem dX10_burns_86 : decode cX10_burns 86 = .ok (.if_icmp .ge 33, 3) := by decide +kernel
theorem dX10_burns_89 : decode cX10_burns 89 = .ok (.aload_n 0, 1) := by decide +kernel
theorem dX10_burns_90 : decode cX10_burns 90 = .ok (.getfield 47, 3) := by decide +kernel
theorem dX10_burns_93 : decode cX10_burns 93 = .ok (.iload 6, 2) := by decide +kernel
theorem dX10_burns_95 : decode cX10_burns 95 = .ok (.iaload, 1) := by decide +kernel
theorem dX10_burns_96 : decode cX10_burns 96 = .ok (.aload_n 0, 1) := by decide +kernel
theorem dX10_burns_97 : decode cX10_burns 97 = .ok (.getfield 16, 3) := by decide +kernel
theorem dX10_burns_100 : decode cX10_burns 100 = .ok (.aload_n 0, 1) := by decide +kernel
theorem dX10_burns_101 : decode cX10_burns 101 = .ok (.getfield 41, 3) := by decide +kernel
theorem dX10_burns_104 : decode cX10_burns 104 = .ok (.iload 6, 2) := by decide +kernel
theorem dX10_burns_106 : decode cX10_burns 106 = .ok (.iaload, 1) := by decide +kernel
theorem dX10_burns_107 : decode cX10_burns 107 = .ok (.iaload, 1) := by decide +kernel
theorem dX10_burns_108 : decode cX10_burns 108 = .ok (.iadd, 1) := by decide +kernel
theorem dX10_burns_109 : decode cX10_burns 109 = .ok (.iload_n 3, 1) := by decide +kernel
theorem dX10_burns_110 : decode cX10_burns 110 = .ok (.iconst 1, 1) := by decide +kernel
theorem dX10_burns_111 : decode cX10_burns 111 = .ok (.isub, 1) := by decide +kernel
theorem dX10_burns_112 : decode cX10_burns 112 = .ok (.if_icmp .le 7, 3) := by decide +kernel
theorem dX10_burns_115 : decode cX10_burns 115 = .ok (.iconst 1, 1) := by decide +kernel
theorem dX10_burns_116 : decode cX10_burns 116 = .ok (.goto 4, 3) := by decide +kernel
theorem dX10_burns_119 : decode cX10_burns 119 = .ok (.iconst 0, 1) := by decide +kernel
theorem dX10_burns_120 : decode cX10_burns 120 = .ok (.istore 7, 2) := by decide +kernel
theorem dX10_burns_122 : decode cX10_burns 122 = .ok (.iload 5, 2) := by decide +kernel
theorem dX10_burns_124 : decode cX10_burns 124 = .ok (.ifCond .ne 48, 3) := by decide +kernel
theorem dX10_burns_127 : decode cX10_burns 127 = .ok (.iload 7, 2) := by decide +kernel
theorem dX10_burns_129 : decode cX10_burns 129 = .ok (.ifCond .eq 47, 3) := by decide +kernel
theorem dX10_burns_132 : decode cX10_burns 132 = .ok (.aload_n 0, 1) := by decide +kernel
theorem dX10_burns_133 : decode cX10_burns 133 = .ok (.getfield 41, 3) := by decide +kernel
theorem dX10_burns_136 : decode cX10_burns 136 = .ok (.iload 6, 2) := by decide +kernel
theorem dX10_burns_138 : decode cX10_burns 138 = .ok (.iaload, 1) := by decide +kernel
theorem dX10_burns_139 : decode cX10_burns 139 = .ok (.aload_n 0, 1) := by decide +kernel
theorem dX10_burns_140 : decode cX10_burns 140 = .ok (.getfield 41, 3) := by decide +kernel
theorem dX10_burns_143 : decode cX10_burns 143 = .ok (.iload 4, 2) := by decide +kernel
theorem dX10_burns_145 : decode cX10_burns 145 = .ok (.iaload, 1) := by decide +kernel
theorem dX10_burns_146 : decode cX10_burns 146 = .ok (.if_icmp .ne 30, 3) := by decide +kernel
theorem dX10_burns_149 : decode cX10_burns 149 = .ok (.aload_n 0, 1) := by decide +kernel
theorem dX10_burns_150 : decode cX10_burns 150 = .ok (.iload 6, 2) := by decide +kernel
theorem dX10_burns_152 : decode cX10_burns 152 = .ok (.iload 4, 2) := by decide +kernel
theorem dX10_burns_154 : decode cX10_burns 154 = .ok (.invokevirtual 144, 3) := by decide +kernel
theorem dX10_burns_157 : decode cX10_burns 157 = .ok (.ifCond .ne 15, 3) := by decide +kernel
theorem dX10_burns_160 : decode cX10_burns 160 = .ok (.aload_n 0, 1) := by decide +kernel
theorem dX10_burns_161 : decode cX10_burns 161 = .ok (.iload 6, 2) := by decide +kernel
theorem dX10_burns_163 : decode cX10_burns 163 = .ok (.iload 4, 2) := by decide +kernel
theorem dX10_burns_165 : decode cX10_burns 165 = .ok (.iload_n 2, 1) := by decide +kernel
theorem dX10_burns_166 : decode cX10_burns 166 = .ok (.invokevirtual 185, 3) := by decide +kernel
theorem dX10_burns_169 : decode cX10_burns 169 = .ok (.ifCond .eq 7, 3) := by decide +kernel
theorem dX10_burns_172 : decode cX10_burns 172 = .ok (.iconst 1, 1) := by decide +kernel
theorem dX10_burns_173 : decode cX10_burns 173 = .ok (.goto 4, 3) := by decide +kernel
theorem dX10_burns_176 : decode cX10_burns 176 = .ok (.iconst 0, 1) := by decide +kernel
theorem dX10_burns_177 : decode cX10_burns 177 = .ok (.istore 5, 2) := by decide +kernel
theorem dX10_burns_179 : decode cX10_burns 179 = .ok (.iinc 6 1, 3) := by decide +kernel
theorem dX10_burns_182 : decode cX10_burns 182 = .ok (.goto (-125), 3) := by decide +kernel
theorem dX10_burns_185 : decode cX10_burns 185 = .ok (.aload_n 0, 1) := by decide +kernel
theorem dX10_burns_186 : decode cX10_burns 186 = .ok (.getfield 47, 3) := by decide +kernel
theorem dX10_burns_189 : decode cX10_burns 189 = .ok (.iload 4, 2) := by decide +kernel
theorem dX10_burns_191 : decode cX10_burns 191 = .ok (.aload_n 0, 1) := by decide +kernel
theorem dX10_burns_192 : decode cX10_burns 192 = .ok (.getfield 47, 3) := by decide +kernel
theorem dX10_burns_195 : decode cX10_burns 195 = .ok (.iload 4, 2) := by decide +kernel
theorem dX10_burns_197 : decode cX10_burns 197 = .ok (.iaload, 1) := by decide +kernel
theorem dX10_burns_198 : decode cX10_burns 198 = .ok (.bipush (-9), 2) := by decide +kernel
theorem dX10_burns_200 : decode cX10_burns 200 = .ok (.if_icmp .ne 12, 3) := by decide +kernel
theorem dX10_burns_203 : decode cX10_burns 203 = .ok (.iload 5, 2) := by decide +kernel
theorem dX10_burns_205 : decode cX10_burns 205 = .ok (.ifCond .eq 7, 3) := by decide +kernel
theorem dX10_burns_208 : decode cX10_burns 208 = .ok (.iload_n 3, 1) := by decide +kernel
theorem dX10_burns_209 : decode cX10_burns 209 = .ok (.goto 10, 3) := by decide +kernel
theorem dX10_burns_212 : decode cX10_burns 212 = .ok (.aload_n 0, 1) := by decide +kernel
theorem dX10_burns_213 : decode cX10_burns 213 = .ok (.getfield 47, 3) := by decide +kernel
theorem dX10_burns_216 : decode cX10_burns 216 = .ok (.iload 4, 2) := by decide +kernel
theorem dX10_burns_218 : decode cX10_burns 218 = .ok (.iaload, 1) := by decide +kernel
theorem dX10_burns_219 : decode cX10_burns 219 = .ok (.iastore, 1) := by decide +kernel
theorem dX10_burns_220 : decode cX10_burns 220 = .ok (.iinc 4 1, 3) := by decide +kernel
theorem dX10_burns_223 : decode cX10_burns 223 = .ok (.goto (-181), 3) := by decide +kernel
theorem dX10_burns_226 : decode cX10_burns 226 = .ok (.iinc 3 1, 3) := by decide +kernel
theorem dX10_burns_229 : decode cX10_burns 229 = .ok (.goto (-196), 3) := by decide +kernel
theorem dX10_burns_232 : decode cX10_burns 232 = .ok (.aload_n 0, 1) := by decide +kernel
theorem dX10_burns_233 : decode cX10_burns 233 = .ok (.iconst 0, 1) := by decide +kernel
theorem dX10_burns_234 : decode cX10_burns 234 = .ok (.putfield 188, 3) := by decide +kernel
theorem dX10_burns_237 : decode cX10_burns 237 = .ok (.aload_n 0, 1) := by decide +kernel
theorem dX10_burns_238 : decode cX10_burns 238 = .ok (.iconst 0, 1) := by decide +kernel
theorem dX10_burns_239 : decode cX10_burns 239 = .ok (.putfield 191, 3) := by decide +kernel
theorem dX10_burns_242 : decode cX10_burns 242 = .ok (.aload_n 0, 1) := by decide +kernel
theorem dX10_burns_243 : decode cX10_burns 243 = .ok (.iconst 0, 1) := by decide +kernel
theorem dX10_burns_244 : decode cX10_burns 244 = .ok (.putfield 194, 3) := by decide +kernel
theorem dX10_burns_247 : decode cX10_burns 247 = .ok (.iconst 0, 1) := by decide +kernel
theorem dX10_burns_248 : decode cX10_burns 248 = .ok (.istore_n 3, 1) := by decide +kernel
theorem dX10_burns_249 : decode cX10_burns 249 = .ok (.iload_n 3, 1) := by decide +kernel
theorem dX10_burns_250 : decode cX10_burns 250 = .ok (.aload_n 0, 1) := by decide +kernel
theorem dX10_burns_251 : decode cX10_burns 251 = .ok (.getfield 138, 3) := by decide +kernel
theorem dX10_burns_254 : decode cX10_burns 254 = .ok (.if_icmp .ge 92, 3) := by decide +kernel
theorem dX10_burns_257 : decode cX10_burns 257 = .ok (.aload_n 0, 1) := by decide +kernel
theorem dX10_burns_258 : decode cX10_burns 258 = .ok (.getfield 47, 3) := by decide +kernel
theorem dX10_burns_261 : decode cX10_burns 261 = .ok (.iload_n 3, 1) := by decide +kernel
theorem dX10_burns_262 : decode cX10_burns 262 = .ok (.iaload, 1) := by decide +kernel
theorem dX10_burns_263 : decode cX10_burns 263 = .ok (.bipush (-9), 2) := by decide +kernel
theorem dX10_burns_265 : decode cX10_burns 265 = .ok (.if_icmp .eq 75, 3) := by decide +kernel
theorem dX10_burns_268 : decode cX10_burns 268 = .ok (.aload_n 0, 1) := by decide +kernel
theorem dX10_burns_269 : decode cX10_burns 269 = .ok (.getfield 47, 3) := by decide +kernel
theorem dX10_burns_272 : decode cX10_burns 272 = .ok (.iload_n 3, 1) := by decide +kernel
theorem dX10_burns_273 : decode cX10_burns 273 = .ok (.iaload, 1) := by decide +kernel
theorem dX10_burns_274 : decode cX10_burns 274 = .ok (.aload_n 0, 1) := by decide +kernel
theorem dX10_burns_275 : decode cX10_burns 275 = .ok (.getfield 16, 3) := by decide +kernel
theorem dX10_burns_278 : decode cX10_burns 278 = .ok (.aload_n 0, 1) := by decide +kernel
theorem dX10_burns_279 : decode cX10_burns 279 = .ok (.getfield 41, 3) := by decide +kernel
theorem dX10_burns_282 : decode cX10_burns 282 = .ok (.iload_n 3, 1) := by decide +kernel
theorem dX10_burns_283 : decode cX10_burns 283 = .ok (.iaload, 1) := by decide +kernel
theorem dX10_burns_284 : decode cX10_burns 284 = .ok (.iaload, 1) := by decide +kernel
theorem dX10_burns_285 : decode cX10_burns 285 = .ok (.iadd, 1) := by decide +kernel
theorem dX10_burns_286 : decode cX10_burns 286 = .ok (.istore 4, 2) := by decide +kernel
theorem dX10_burns_288 : decode cX10_burns 288 = .ok (.aload_n 0, 1) := by decide +kernel
theorem dX10_burns_289 : decode cX10_burns 289 = .ok (.dup, 1) := by decide +kernel
theorem dX10_burns_290 : decode cX10_burns 290 = .ok (.getfield 188, 3) := by decide +kernel
theorem dX10_burns_293 : decode cX10_burns 293 = .ok (.iconst 1, 1) := by decide +kernel
theorem dX10_burns_294 : decode cX10_burns 294 = .ok (.iadd, 1) := by decide +kernel
theorem dX10_burns_295 : decode cX10_burns 295 = .ok (.putfield 188, 3) := by decide +kernel
theorem dX10_burns_298 : decode cX10_burns 298 = .ok (.aload_n 0, 1) := by decide +kernel
theorem dX10_burns_299 : decode cX10_burns 299 = .ok (.dup, 1) := by decide +kernel
theorem dX10_burns_300 : decode cX10_burns 300 = .ok (.getfield 191, 3) := by decide +kernel
theorem dX10_burns_303 : decode cX10_burns 303 = .ok (.aload_n 0, 1) := by decide +kernel
theorem dX10_burns_304 : decode cX10_burns 304 = .ok (.getfield 13, 3) := by decide +kernel
theorem dX10_burns_307 : decode cX10_burns 307 = .ok (.aload_n 0, 1) := by decide +kernel
theorem dX10_burns_308 : decode cX10_burns 308 = .ok (.getfield 41, 3) := by decide +kernel
theorem dX10_burns_311 : decode cX10_burns 311 = .ok (.iload_n 3, 1) := by decide +kernel
theorem dX10_burns_312 : decode cX10_burns 312 = .ok (.iaload, 1) := by decide +kernel
theorem dX10_burns_313 : decode cX10_burns 313 = .ok (.iaload, 1) := by decide +kernel
theorem dX10_burns_314 : decode cX10_burns 314 = .ok (.iadd, 1) := by decide +kernel
theorem dX10_burns_315 : decode cX10_burns 315 = .ok (.putfield 191, 3) := by decide +kernel
theorem dX10_burns_318 : decode cX10_burns 318 = .ok (.aload_n 0, 1) := by decide +kernel
theorem dX10_burns_319 : decode cX10_burns 319 = .ok (.iload 4, 2) := by decide +kernel
theorem dX10_burns_321 : decode cX10_burns 321 = .ok (.aload_n 0, 1) := by decide +kernel
theorem dX10_burns_322 : decode cX10_burns 322 = .ok (.getfield 194, 3) := by decide +kernel
theorem dX10_burns_325 : decode cX10_burns 325 = .ok (.if_icmp .le 8, 3) := by decide +kernel
theorem dX10_burns_328 : decode cX10_burns 328 = .ok (.iload 4, 2) := by decide +kernel
theorem dX10_burns_330 : decode cX10_burns 330 = .ok (.goto 7, 3) := by decide +kernel
theorem dX10_burns_333 : decode cX10_burns 333 = .ok (.aload_n 0, 1) := by decide +kernel
theorem dX10_burns_334 : decode cX10_burns 334 = .ok (.getfield 194, 3) := by decide +kernel
theorem dX10_burns_337 : decode cX10_burns 337 = .ok (.putfield 194, 3) := by decide +kernel
theorem dX10_burns_340 : decode cX10_burns 340 = .ok (.iinc 3 1, 3) := by decide +kernel
theorem dX10_burns_343 : decode cX10_burns 343 = .ok (.goto (-94), 3) := by decide +kernel
theorem dX10_burns_346 : decode cX10_burns 346 = .ok (.return_, 1) := by decide +kernel
