theorem dX5_init_0 : decode cX5_init 0 = .ok (.aload_n 0, 1) := by decide +kernel
theorem dX5_init_1 : decode cX5_init 1 = .ok (.invokespecial 3, 3) := by decide +kernel
theorem dX5_init_4 : decode cX5_init 4 = .ok (.aload_n 0, 1) := by decide +kernel
theorem dX5_init_5 : decode cX5_init 5 = .ok (.new 9, 3) := by decide +kernel
theorem dX5_init_8 : decode cX5_init 8 = .ok (.dup, 1) := by decide +kernel
theorem dX5_init_9 : decode cX5_init 9 = .ok (.bipush 32, 2) := by decide +kernel
theorem dX5_init_11 : decode cX5_init 11 = .ok (.iconst 2, 1) := by decide +kernel
theorem dX5_init_12 : decode cX5_init 12 = .ok (.iconst (-1), 1) := by decide +kernel
theorem dX5_init_13 : decode cX5_init 13 = .ok (.invokespecial 11, 3) := by decide +kernel
theorem dX5_init_16 : decode cX5_init 16 = .ok (.putfield 14, 3) := by decide +kernel
theorem dX5_init_19 : decode cX5_init 19 = .ok (.aload_n 0, 1) := by decide +kernel
theorem dX5_init_20 : decode cX5_init 20 = .ok (.aload_n 1, 1) := by decide +kernel
theorem dX5_init_21 : decode cX5_init 21 = .ok (.putfield 20, 3) := by decide +kernel
theorem dX5_init_24 : decode cX5_init 24 = .ok (.return_, 1) := by decide +kernel
set_option maxRecDepth 20000 in
theorem ggX5_endOf_X5_measureWaysUp : GoodIn wsX5_endOf wsX5_measureWaysUp := goodIn_r _ [6, 1, 7, 8, 9, 10, 11, 12, 13, 14, 15, 16, 17, 18, 5, 19, 20, 21, 22, 23, 24, 25, 26, 27, 28, 29, 30, 31, 32, 33, 34, 35, 36, 37, 38, 39, 40, 41, 42, 63, 64, 65, 66, 67, 68, 69, 70, 71, 72, 73, 74, 75, 76, 77, 78] (by decide +kernel) (by decide +kernel)
set_option maxRecDepth 20000 in
theorem gX5_endOf_X5_measureWaysUp : GoodIn wsX5_endOf (wsV RX5 24 RX5 yX5_measureWaysUp wsX5_measureWaysUp) := goodIn_app (goodIn_of _ (by decide +kernel)) ggX5_endOf_X5_measureWaysUp
set_option maxRecDepth 20000 in
theorem ggX5_endOf_X4_get : GoodIn wsX5_endOf wsX4_get := goodIn_r _ [24, 12, 13, 14, 15, 65, 66, 67, 68] (by decide +kernel) (by decide +kernel)
set_option maxRecDepth 20000 in
theorem gX5_endOf_X4_get : GoodIn wsX5_endOf (wsV RX5 28 RX4 yX4_get wsX4_get) := goodIn_app (goodIn_of _ (by decide +kernel)) ggX5_endOf_X4_get
set_option maxRecDepth 20000 in
theorem ggX5_endOf_X5_beginAt : GoodIn wsX5_endOf wsX5_beginAt := goodIn_r _ [46, 1, 47, 48, 49, 5, 50, 21, 22, 23, 10, 24, 12, 13, 14, 15, 51, 52, 53, 54, 55, 56, 57, 58, 33, 34, 35, 36, 20, 37, 38, 39, 40, 41, 42, 16, 17, 18, 19, 25, 26, 27, 28, 63, 64, 65, 66, 67, 68, 69, 70, 71, 72, 73, 74, 75, 76, 77, 78] (by decide +kernel) (by decide +kernel)
set_option maxRecDepth 20000 in
theorem gX5_endOf_X5_beginAt : GoodIn wsX5_endOf (wsV RX5 32 RX5 yX5_beginAt wsX5_beginAt) := goodIn_app (goodIn_of _ (by decide +kernel)) ggX5_endOf_X5_beginAt
set_option maxRecDepth 20000 in
theorem ggX5_endOf_X5_nextEnd : GoodIn wsX5_endOf wsX5_nextEnd := goodIn_r _ [62, 1, 21, 22, 23, 10, 24, 12, 13, 14, 15, 63, 64, 65, 66, 67, 68] (by decide +kernel) (by decide +kernel)
set_option maxRecDepth 20000 in
theorem gX5_endOf_X5_nextEnd : GoodIn wsX5_endOf (wsV RX5 36 RX5 yX5_nextEnd wsX5_nextEnd) := goodIn_app (goodIn_of _ (by decide +kernel)) ggX5_endOf_X5_nextEnd
theorem dX5_endOf_0 : decode cX5_endOf 0 = .ok (.aload_n 0, 1) := by decide +kernel
theorem dX5_endOf_1 : decode cX5_endOf 1 = .ok (.iload_n 1, 1) := by decide +kernel
theorem dX5_endOf_2 : decode cX5_endOf 2 = .ok (.invokevirtual 24, 3) := by decide +kernel
theorem dX5_endOf_5 : decode cX5_endOf 5 = .ok (.iconst 0, 1) := by decide +kernel
theorem dX5_endOf_6 : decode cX5_endOf 6 = .ok (.istore_n 3, 1) := by decide +kernel
theorem dX5_endOf_7 : decode cX5_endOf 7 = .ok (.iconst 0, 1) := by decide +kernel
theorem dX5_endOf_8 : decode cX5_endOf 8 = .ok (.istore 4, 2) := by decide +kernel
theorem dX5_endOf_10 : decode cX5_endOf 10 = .ok (.iload 4, 2) := by decide +kernel
theorem dX5_endOf_12 : decode cX5_endOf 12 = .ok (.bipush 32, 2) := by decide +kernel
theorem dX5_endOf_14 : decode cX5_endOf 14 = .ok (.if_icmp .gt 34, 3) := by decide +kernel
theorem dX5_endOf_17 : decode cX5_endOf 17 = .ok (.aload_n 0, 1) := by decide +kernel
theorem dX5_endOf_18 : decode cX5_endOf 18 = .ok (.getfield 14, 3) := by decide +kernel
theorem dX5_endOf_21 : decode cX5_endOf 21 = .ok (.iload_n 1, 1) := by decide +kernel
theorem dX5_endOf_22 : decode cX5_endOf 22 = .ok (.iconst 1, 1) := by decide +kernel
theorem dX5_endOf_23 : decode cX5_endOf 23 = .ok (.invokevirtual 28, 3) := by decide +kernel
theorem dX5_endOf_26 : decode cX5_endOf 26 = .ok (.iconst (-1), 1) := by decide +kernel
theorem dX5_endOf_27 : decode cX5_endOf 27 = .ok (.if_icmp .ne 21, 3) := by decide +kernel
theorem dX5_endOf_30 : decode cX5_endOf 30 = .ok (.aload_n 0, 1) := by decide +kernel
theorem dX5_endOf_31 : decode cX5_endOf 31 = .ok (.iload_n 3, 1) := by decide +kernel
theorem dX5_endOf_32 : decode cX5_endOf 32 = .ok (.iload_n 2, 1) := by decide +kernel
theorem dX5_endOf_33 : decode cX5_endOf 33 = .ok (.invokevirtual 32, 3) := by decide +kernel
theorem dX5_endOf_36 : decode cX5_endOf 36 = .ok (.aload_n 0, 1) := by decide +kernel
theorem dX5_endOf_37 : decode cX5_endOf 37 = .ok (.iload_n 3, 1) := by decide +kernel
theorem dX5_endOf_38 : decode cX5_endOf 38 = .ok (.invokevirtual 36, 3) := by decide +kernel
theorem dX5_endOf_41 : decode cX5_endOf 41 = .ok (.istore_n 3, 1) := by decide +kernel
theorem dX5_endOf_42 : decode cX5_endOf 42 = .ok (.iinc 4 1, 3) := by decide +kernel
theorem dX5_endOf_45 : decode cX5_endOf 45 = .ok (.goto (-35), 3) := by decide +kernel
theorem dX5_endOf_48 : decode cX5_endOf 48 = .ok (.aload_n 0, 1) := by decide +kernel
theorem dX5_endOf_49 : decode cX5_endOf 49 = .ok (.getfield 14, 3) := by decide +kernel
theorem dX5_endOf_52 : decode cX5_endOf 52 = .ok (.iload_n 1, 1) := by decide +kernel
theorem dX5_endOf_53 : decode cX5_endOf 53 = .ok (.iconst 1, 1) := by decide +kernel
theorem dX5_endOf_54 : decode cX5_endOf 54 = .ok (.invokevirtual 28, 3) := by decide +kernel
theorem dX5_endOf_57 : decode cX5_endOf 57 = .ok (.ireturn, 1) := by decide +kernel
set_option maxRecDepth 20000 in
theorem ggX5_measureWaysUp_X4_clear : GoodIn wsX5_measureWaysUp wsX4_clear := goodIn_r _ [6, 7, 8, 9, 10, 41, 42, 43, 44] (by decide +kernel) (by decide +kernel)
set_option maxRecDepth 20000 in
theorem gX5_measureWaysUp_X4_clear : GoodIn wsX5_measureWaysUp (wsV RX5 40 RX4 yX4_clear wsX4_clear) := goodIn_app (goodIn_of _ (by decide +kernel)) ggX5_measureWaysUp_X4_clear
set_option maxRecDepth 20000 in
theorem ggX5_measureWaysUp_X5_timeOf : GoodIn wsX5_measureWaysUp wsX5_timeOf := goodIn_r _ [15, 16, 17, 18, 19, 5, 20, 7, 8, 9, 10, 39, 40, 45, 46, 47, 48, 49, 50, 51, 52, 53, 54, 41, 42, 43, 44] (by decide +kernel) (by decide +kernel)
set_option maxRecDepth 20000 in
theorem gX5_measureWaysUp_X5_timeOf : GoodIn wsX5_measureWaysUp (wsV RX5 43 RX5 yX5_timeOf wsX5_timeOf) := goodIn_app (goodIn_of _ (by decide +kernel)) ggX5_measureWaysUp_X5_timeOf
set_option maxRecDepth 20000 in
theorem ggX5_measureWaysUp_X4_set : GoodIn wsX5_measureWaysUp wsX4_set := goodIn_r _ [24, 7, 8, 9, 41, 42, 43, 44] (by decide +kernel) (by decide +kernel)
set_option maxRecDepth 20000 in
theorem gX5_measureWaysUp_X4_set : GoodIn wsX5_measureWaysUp (wsV RX5 46 RX4 yX4_set wsX4_set) := goodIn_app (goodIn_of _ (by decide +kernel)) ggX5_measureWaysUp_X4_set
set_option maxRecDepth 20000 in
theorem ggX5_measureWaysUp_X4_get : GoodIn wsX5_measureWaysUp wsX4_get := goodIn_r _ [20, 7, 8, 9, 10, 41, 42, 43, 44] (by decide +kernel) (by decide +kernel)
set_option maxRecDepth 20000 in
theorem gX5_measureWaysUp_X4_get : GoodIn wsX5_measureWaysUp (wsV RX5 28 RX4 yX4_get wsX4_get) := goodIn_app (goodIn_of _ (by decide +kernel)) ggX5_measureWaysUp_X4_get
set_option maxRecDepth 20000 in
theorem ggX5_measureWaysUp_X5_makesWaysLonger : GoodIn wsX5_measureWaysUp wsX5_makesWaysLonger := goodIn_r _ [28, 1, 29, 30, 31, 14, 32, 16, 17, 18, 19, 5, 20, 7, 8, 9, 10, 33, 34, 35, 36, 37, 38, 11, 12, 13, 15, 21, 22, 23, 24, 39, 40, 45, 46, 47, 48, 49, 50, 51, 52, 53, 54, 41, 42, 43, 44] (by decide +kernel) (by decide +kernel)
set_option maxRecDepth 20000 in
theorem gX5_measureWaysUp_X5_makesWaysLonger : GoodIn wsX5_measureWaysUp (wsV RX5 49 RX5 yX5_makesWaysLonger wsX5_makesWaysLonger) := goodIn_app (goodIn_of _ (by decide +kernel)) ggX5_measureWaysUp_X5_makesWaysLonger
theorem dX5_measureWaysUp_0 : decode cX5_measureWaysUp 0 = .ok (.iconst 0, 1) := by decide +kernel
theorem dX5_measureWaysUp_1 : decode cX5_measureWaysUp 1 = .ok (.istore_n 2, 1) := by decide +kernel
theorem dX5_measureWaysUp_2 : decode cX5_measureWaysUp 2 = .ok (.iload_n 2, 1) := by decide +kernel
theorem dX5_measureWaysUp_3 : decode cX5_measureWaysUp 3 = .ok (.bipush 32, 2) := by decide +kernel
theorem dX5_measureWaysUp_5 : decode cX5_measureWaysUp 5 = .ok (.if_icmp .ge 17, 3) := by decide +kernel
theorem dX5_measureWaysUp_8 : decode cX5_measureWaysUp 8 = .ok (.aload_n 0, 1) := by decide +kernel
theorem dX5_measureWaysUp_9 : decode cX5_measureWaysUp 9 = .ok (.getfield 14, 3) := by decide +kernel
theorem dX5_measureWaysUp_12 : decode cX5_measureWaysUp 12 = .ok (.iload_n 2, 1) := by decide +kernel
theorem dX5_measureWaysUp_13 : decode cX5_measureWaysUp 13 = .ok (.invokevirtual 40, 3) := by decide +kernel
theorem dX5_measureWaysUp_16 : decode cX5_measureWaysUp 16 = .ok (.iinc 2 1, 3) := by decide +kernel
theorem dX5_measureWaysUp_19 : decode cX5_measureWaysUp 19 = .ok (.goto (-17), 3) := by decide +kernel
theorem dX5_measureWaysUp_22 : decode cX5_measureWaysUp 22 = .ok (.aload_n 0, 1) := by decide +kernel
theorem dX5_measureWaysUp_23 : decode cX5_measureWaysUp 23 = .ok (.getfield 14, 3) := by decide +kernel
theorem dX5_measureWaysUp_26 : decode cX5_measureWaysUp 26 = .ok (.iload_n 1, 1) := by decide +kernel
theorem dX5_measureWaysUp_27 : decode cX5_measureWaysUp 27 = .ok (.iconst 0, 1) := by decide +kernel
theorem dX5_measureWaysUp_28 : decode cX5_measureWaysUp 28 = .ok (.aload_n 0, 1) := by decide +kernel
theorem dX5_measureWaysUp_29 : decode cX5_measureWaysUp 29 = .ok (.iload_n 1, 1) := by decide +kernel
theorem dX5_measureWaysUp_30 : decode cX5_measureWaysUp 30 = .ok (.invokevirtual 43, 3) := by decide +kernel
theorem dX5_measureWaysUp_33 : decode cX5_measureWaysUp 33 = .ok (.invokevirtual 46, 3) := by decide +kernel
theorem dX5_measureWaysUp_36 : decode cX5_measureWaysUp 36 = .ok (.iconst 1, 1) := by decide +kernel
theorem dX5_measureWaysUp_37 : decode cX5_measureWaysUp 37 = .ok (.istore_n 2, 1) := by decide +kernel
theorem dX5_measureWaysUp_38 : decode cX5_measureWaysUp 38 = .ok (.iconst 0, 1) := by decide +kernel
theorem dX5_measureWaysUp_39 : decode cX5_measureWaysUp 39 = .ok (.istore_n 3, 1) := by decide +kernel
theorem dX5_measureWaysUp_40 : decode cX5_measureWaysUp 40 = .ok (.iload_n 3, 1) := by decide +kernel
theorem dX5_measureWaysUp_41 : decode cX5_measureWaysUp 41 = .ok (.bipush 32, 2) := by decide +kernel
theorem dX5_measureWaysUp_43 : decode cX5_measureWaysUp 43 = .ok (.if_icmp .ge 62, 3) := by decide +kernel
theorem dX5_measureWaysUp_46 : decode cX5_measureWaysUp 46 = .ok (.iload_n 2, 1) := by decide +kernel
theorem dX5_measureWaysUp_47 : decode cX5_measureWaysUp 47 = .ok (.ifCond .eq 58, 3) := by decide +kernel
theorem dX5_measureWaysUp_50 : decode cX5_measureWaysUp 50 = .ok (.iconst 0, 1) := by decide +kernel
theorem dX5_measureWaysUp_51 : decode cX5_measureWaysUp 51 = .ok (.istore_n 2, 1) := by decide +kernel
theorem dX5_measureWaysUp_52 : decode cX5_measureWaysUp 52 = .ok (.iconst 0, 1) := by decide +kernel
theorem dX5_measureWaysUp_53 : decode cX5_measureWaysUp 53 = .ok (.istore 4, 2) := by decide +kernel
theorem dX5_measureWaysUp_55 : decode cX5_measureWaysUp 55 = .ok (.iload 4, 2) := by decide +kernel
theorem dX5_measureWaysUp_57 : decode cX5_measureWaysUp 57 = .ok (.bipush 32, 2) := by decide +kernel
theorem dX5_measureWaysUp_59 : decode cX5_measureWaysUp 59 = .ok (.if_icmp .ge 40, 3) := by decide +kernel
theorem dX5_measureWaysUp_62 : decode cX5_measureWaysUp 62 = .ok (.iload_n 2, 1) := by decide +kernel
theorem dX5_measureWaysUp_63 : decode cX5_measureWaysUp 63 = .ok (.aload_n 0, 1) := by decide +kernel
theorem dX5_measureWaysUp_64 : decode cX5_measureWaysUp 64 = .ok (.getfield 14, 3) := by decide +kernel
theorem dX5_measureWaysUp_67 : decode cX5_measureWaysUp 67 = .ok (.iload 4, 2) := by decide +kernel
theorem dX5_measureWaysUp_69 : decode cX5_measureWaysUp 69 = .ok (.iconst 0, 1) := by decide +kernel
theorem dX5_measureWaysUp_70 : decode cX5_measureWaysUp 70 = .ok (.invokevirtual 28, 3) := by decide +kernel
theorem dX5_measureWaysUp_73 : decode cX5_measureWaysUp 73 = .ok (.iconst (-1), 1) := by decide +kernel
theorem dX5_measureWaysUp_74 : decode cX5_measureWaysUp 74 = .ok (.if_icmp .eq 16, 3) := by decide +kernel
theorem dX5_measureWaysUp_77 : decode cX5_measureWaysUp 77 = .ok (.aload_n 0, 1) := by decide +kernel
theorem dX5_measureWaysUp_78 : decode cX5_measureWaysUp 78 = .ok (.iload 4, 2) := by decide +kernel
theorem dX5_measureWaysUp_80 : decode cX5_measureWaysUp 80 = .ok (.invokevirtual 49, 3) := by decide +kernel
theorem dX5_measureWaysUp_83 : decode cX5_measureWaysUp 83 = .ok (.ifCond .eq 7, 3) := by decide +kernel
theorem dX5_measureWaysUp_86 : decode cX5_measureWaysUp 86 = .ok (.iconst 1, 1) := by decide +kernel
theorem dX5_measureWaysUp_87 : decode cX5_measureWaysUp 87 = .ok (.goto 4, 3) := by decide +kernel
theorem dX5_measureWaysUp_90 : decode cX5_measureWaysUp 90 = .ok (.iconst 0, 1) := by decide +kernel
theorem dX5_measureWaysUp_91 : decode cX5_measureWaysUp 91 = .ok (.ior, 1) := by decide +kernel
theorem dX5_measureWaysUp_92 : decode cX5_measureWaysUp 92 = .ok (.istore_n 2, 1) := by decide +kernel
theorem dX5_measureWaysUp_93 : decode cX5_measureWaysUp 93 = .ok (.iinc 4 1, 3) := by decide +kernel
theorem dX5_measureWaysUp_96 : decode cX5_measureWaysUp 96 = .ok (.goto (-41), 3) := by decide +kernel
theorem dX5_measureWaysUp_99 : decode cX5_measureWaysUp 99 = .ok (.iinc 3 1, 3) := by decide +kernel
theorem dX5_measureWaysUp_102 : decode cX5_measureWaysUp 102 = .ok (.goto (-62), 3) := by decide +kernel
theorem dX5_measureWaysUp_105 : decode cX5_measureWaysUp 105 = .ok (.return_, 1) := by decide +kernel
set_option maxRecDepth 20000 in
theorem ggX5_makesWaysLonger_X5_nodeReadAt : GoodIn wsX5_makesWaysLonger wsX5_nodeReadAt := goodIn_r _ [6, 7, 8, 9, 10, 11, 12, 13, 14, 15, 16, 17, 18, 19, 20, 21, 22, 31, 32, 33, 34, 35, 36, 37, 38, 39, 40, 41, 42, 43, 44, 45, 46] (by decide +kernel) (by decide +kernel)
set_option maxRecDepth 20000 in
theorem gX5_makesWaysLonger_X5_nodeReadAt : GoodIn wsX5_makesWaysLonger (wsV RX5 53 RX5 yX5_nodeReadAt wsX5_nodeReadAt) := goodIn_app (goodIn_of _ (by decide +kernel)) ggX5_makesWaysLonger_X5_nodeReadAt
set_option maxRecDepth 20000 in
theorem ggX5_makesWaysLonger_X4_get : GoodIn wsX5_makesWaysLonger wsX4_get := goodIn_r _ [12, 13, 14, 15, 16, 43, 44, 45, 46] (by decide +kernel) (by decide +kernel)
set_option maxRecDepth 20000 in
theorem gX5_makesWaysLonger_X4_get : GoodIn wsX5_makesWaysLonger (wsV RX5 28 RX4 yX4_get wsX4_get) := goodIn_app (goodIn_of _ (by decide +kernel)) ggX5_makesWaysLonger_X4_get
set_option maxRecDepth 20000 in
theorem ggX5_makesWaysLonger_X5_timeOf : GoodIn wsX5_makesWaysLonger wsX5_timeOf := goodIn_r _ [26, 7, 8, 9, 10, 11, 12, 13, 14, 15, 16, 31, 32, 33, 34, 35, 36, 37, 38, 39, 40, 41, 42, 43, 44, 45, 46] (by decide +kernel) (by decide +kernel)
set_option maxRecDepth 20000 in
theorem gX5_makesWaysLonger_X5_timeOf : GoodIn wsX5_makesWaysLonger (wsV RX5 43 RX5 yX5_timeOf wsX5_timeOf) := goodIn_app (goodIn_of _ (by decide +kernel)) ggX5_makesWaysLonger_X5_timeOf
set_option maxRecDepth 20000 in
theorem ggX5_makesWaysLonger_X4_set : GoodIn wsX5_makesWaysLonger wsX4_set := goodIn_r _ [30, 13, 14, 15, 43, 44, 45, 46] (by decide +kernel) (by decide +kernel)
set_option maxRecDepth 20000 in
theorem gX5_makesWaysLonger_X4_set : GoodIn wsX5_makesWaysLonger (wsV RX5 46 RX4 yX4_set wsX4_set) := goodIn_app (goodIn_of _ (by decide +kernel)) ggX5_makesWaysLonger_X4_set
theorem dX5_makesWaysLonger_0 : decode cX5_makesWaysLonger 0 = .ok (.iconst 0, 1) := by decide +kernel
theorem dX5_makesWaysLonger_1 : decode cX5_makesWaysLonger 1 = .ok (.istore_n 2, 1) := by decide +kernel
theorem dX5_makesWaysLonger_2 : decode cX5_makesWaysLonger 2 = .ok (.iconst 0, 1) := by decide +kernel
theorem dX5_makesWaysLonger_3 : decode cX5_makesWaysLonger 3 = .ok (.istore_n 3, 1) := by decide +kernel
theorem dX5_makesWaysLonger_4 : decode cX5_makesWaysLonger 4 = .ok (.iload_n 3, 1) := by decide +kernel
theorem dX5_makesWaysLonger_5 : decode cX5_makesWaysLonger 5 = .ok (.iconst 5, 1) := by decide +kernel
theorem dX5_makesWaysLonger_6 : decode cX5_makesWaysLonger 6 = .ok (.if_icmp .ge 80, 3) := by decide +kernel
theorem dX5_makesWaysLonger_9 : decode cX5_makesWaysLonger 9 = .ok (.aload_n 0, 1) := by decide +kernel
theorem dX5_makesWaysLonger_10 : decode cX5_makesWaysLonger 10 = .ok (.iload_n 1, 1) := by decide +kernel
theorem dX5_makesWaysLonger_11 : decode cX5_makesWaysLonger 11 = .ok (.iload_n 3, 1) := by decide +kernel
theorem dX5_makesWaysLonger_12 : decode cX5_makesWaysLonger 12 = .ok (.invokevirtual 53, 3) := by decide +kernel
theorem dX5_makesWaysLonger_15 : decode cX5_makesWaysLonger 15 = .ok (.istore 4, 2) := by decide +kernel
theorem dX5_makesWaysLonger_17 : decode cX5_makesWaysLonger 17 = .ok (.iload 4, 2) := by decide +kernel
theorem dX5_makesWaysLonger_19 : decode cX5_makesWaysLonger 19 = .ok (.iconst (-1), 1) := by decide +kernel
theorem dX5_makesWaysLonger_20 : decode cX5_makesWaysLonger 20 = .ok (.if_icmp .ne 7, 3) := by decide +kernel
theorem dX5_makesWaysLonger_23 : decode cX5_makesWaysLonger 23 = .ok (.iconst (-1), 1) := by decide +kernel
theorem dX5_makesWaysLonger_24 : decode cX5_makesWaysLonger 24 = .ok (.goto 19, 3) := by decide +kernel
theorem dX5_makesWaysLonger_27 : decode cX5_makesWaysLonger 27 = .ok (.aload_n 0, 1) := by decide +kernel
theorem dX5_makesWaysLonger_28 : decode cX5_makesWaysLonger 28 = .ok (.getfield 14, 3) := by decide +kernel
theorem dX5_makesWaysLonger_31 : decode cX5_makesWaysLonger 31 = .ok (.iload_n 1, 1) := by decide +kernel
theorem dX5_makesWaysLonger_32 : decode cX5_makesWaysLonger 32 = .ok (.iconst 0, 1) := by decide +kernel
theorem dX5_makesWaysLonger_33 : decode cX5_makesWaysLonger 33 = .ok (.invokevirtual 28, 3) := by decide +kernel
theorem dX5_makesWaysLonger_36 : decode cX5_makesWaysLonger 36 = .ok (.aload_n 0, 1) := by decide +kernel
theorem dX5_makesWaysLonger_37 : decode cX5_makesWaysLonger 37 = .ok (.iload 4, 2) := by decide +kernel
theorem dX5_makesWaysLonger_39 : decode cX5_makesWaysLonger 39 = .ok (.invokevirtual 43, 3) := by decide +kernel
theorem dX5_makesWaysLonger_42 : decode cX5_makesWaysLonger 42 = .ok (.iadd, 1) := by decide +kernel
theorem dX5_makesWaysLonger_43 : decode cX5_makesWaysLonger 43 = .ok (.istore 5, 2) := by decide +kernel
theorem dX5_makesWaysLonger_45 : decode cX5_makesWaysLonger 45 = .ok (.iload 4, 2) := by decide +kernel
theorem dX5_makesWaysLonger_47 : decode cX5_makesWaysLonger 47 = .ok (.iconst (-1), 1) := by decide +kernel
theorem dX5_makesWaysLonger_48 : decode cX5_makesWaysLonger 48 = .ok (.if_icmp .eq 32, 3) := by decide +kernel
theorem dX5_makesWaysLonger_51 : decode cX5_makesWaysLonger 51 = .ok (.iload 5, 2) := by decide +kernel
theorem dX5_makesWaysLonger_53 : decode cX5_makesWaysLonger 53 = .ok (.aload_n 0, 1) := by decide +kernel
theorem dX5_makesWaysLonger_54 : decode cX5_makesWaysLonger 54 = .ok (.getfield 14, 3) := by decide +kernel
theorem dX5_makesWaysLonger_57 : decode cX5_makesWaysLonger 57 = .ok (.iload 4, 2) := by decide +kernel
theorem dX5_makesWaysLonger_59 : decode cX5_makesWaysLonger 59 = .ok (.iconst 0, 1) := by decide +kernel
theorem dX5_makesWaysLonger_60 : decode cX5_makesWaysLonger 60 = .ok (.invokevirtual 28, 3) := by decide +kernel
theorem dX5_makesWaysLonger_63 : decode cX5_makesWaysLonger 63 = .ok (.if_icmp .le 17, 3) := by decide +kernel
theorem dX5_makesWaysLonger_66 : decode cX5_makesWaysLonger 66 = .ok (.aload_n 0, 1) := by decide +kernel
theorem dX5_makesWaysLonger_67 : decode cX5_makesWaysLonger 67 = .ok (.getfield 14, 3) := by decide +kernel
theorem dX5_makesWaysLonger_70 : decode cX5_makesWaysLonger 70 = .ok (.iload 4, 2) := by decide +kernel
theorem dX5_makesWaysLonger_72 : decode cX5_makesWaysLonger 72 = .ok (.iconst 0, 1) := by decide +kernel
theorem dX5_makesWaysLonger_73 : decode cX5_makesWaysLonger 73 = .ok (.iload 5, 2) := by decide +kernel
theorem dX5_makesWaysLonger_75 : decode cX5_makesWaysLonger 75 = .ok (.invokevirtual 46, 3) := by decide +kernel
theorem dX5_makesWaysLonger_78 : decode cX5_makesWaysLonger 78 = .ok (.iconst 1, 1) := by decide +kernel
theorem dX5_makesWaysLonger_79 : decode cX5_makesWaysLonger 79 = .ok (.istore_n 2, 1) := by decide +kernel
theorem dX5_makesWaysLonger_80 : decode cX5_makesWaysLonger 80 = .ok (.iinc 3 1, 3) := by decide +kernel
theorem dX5_makesWaysLonger_83 : decode cX5_makesWaysLonger 83 = .ok (.goto (-79), 3) := by decide +kernel
theorem dX5_makesWaysLonger_86 : decode cX5_makesWaysLonger 86 = .ok (.iload_n 2, 1) := by decide +kernel
theorem dX5_makesWaysLonger_87 : decode cX5_makesWaysLonger 87 = .ok (.ireturn, 1) := by decide +kernel
set_option maxRecDepth 20000 in
theorem ggX5_nodeReadAt_X4_get : GoodIn wsX5_nodeReadAt wsX4_get := goodIn_r _ [6, 7, 8, 9, 10, 29, 30, 31, 32] (by decide +kernel) (by decide +kernel)
set_option maxRecDepth 20000 in
theorem gX5_nodeReadAt_X4_get : GoodIn wsX5_nodeReadAt (wsV RX5 28 RX4 yX4_get wsX4_get) := goodIn_app (goodIn_of _ (by decide +kernel)) ggX5_nodeReadAt_X4_get
set_option maxRecDepth 20000 in
theorem ggX5_nodeReadAt_X6_nodeRead : GoodIn wsX5_nodeReadAt wsX6_nodeRead := goodIn_r _ [13, 14, 15, 12, 16] (by decide +kernel) (by decide +kernel)
set_option maxRecDepth 20000 in
theorem gX5_nodeReadAt_X6_nodeRead_n61 : GoodIn wsX5_nodeReadAt (wsX6_nodeRead) := ggX5_nodeReadAt_X6_nodeRead
theorem dX5_nodeReadAt_0 : decode cX5_nodeReadAt 0 = .ok (.bipush 15, 2) := by decide +kernel
theorem dX5_nodeReadAt_2 : decode cX5_nodeReadAt 2 = .ok (.iload_n 2, 1) := by decide +kernel
theorem dX5_nodeReadAt_3 : decode cX5_nodeReadAt 3 = .ok (.bipush 7, 2) := by decide +kernel
theorem dX5_nodeReadAt_5 : decode cX5_nodeReadAt 5 = .ok (.imul, 1) := by decide +kernel
theorem dX5_nodeReadAt_6 : decode cX5_nodeReadAt 6 = .ok (.iadd, 1) := by decide +kernel
theorem dX5_nodeReadAt_7 : decode cX5_nodeReadAt 7 = .ok (.istore_n 3, 1) := by decide +kernel
theorem dX5_nodeReadAt_8 : decode cX5_nodeReadAt 8 = .ok (.aload_n 0, 1) := by decide +kernel
theorem dX5_nodeReadAt_9 : decode cX5_nodeReadAt 9 = .ok (.getfield 20, 3) := by decide +kernel
theorem dX5_nodeReadAt_12 : decode cX5_nodeReadAt 12 = .ok (.getfield 56, 3) := by decide +kernel
theorem dX5_nodeReadAt_15 : decode cX5_nodeReadAt 15 = .ok (.iload_n 1, 1) := by decide +kernel
theorem dX5_nodeReadAt_16 : decode cX5_nodeReadAt 16 = .ok (.iload_n 3, 1) := by decide +kernel
theorem dX5_nodeReadAt_17 : decode cX5_nodeReadAt 17 = .ok (.iconst 0, 1) := by decide +kernel
theorem dX5_nodeReadAt_18 : decode cX5_nodeReadAt 18 = .ok (.iadd, 1) := by decide +kernel
theorem dX5_nodeReadAt_19 : decode cX5_nodeReadAt 19 = .ok (.invokevirtual 28, 3) := by decide +kernel
theorem dX5_nodeReadAt_22 : decode cX5_nodeReadAt 22 = .ok (.istore 4, 2) := by decide +kernel
theorem dX5_nodeReadAt_24 : decode cX5_nodeReadAt 24 = .ok (.aload_n 0, 1) := by decide +kernel
theorem dX5_nodeReadAt_25 : decode cX5_nodeReadAt 25 = .ok (.getfield 20, 3) := by decide +kernel
theorem dX5_nodeReadAt_28 : decode cX5_nodeReadAt 28 = .ok (.getfield 56, 3) := by decide +kernel
theorem dX5_nodeReadAt_31 : decode cX5_nodeReadAt 31 = .ok (.iload_n 1, 1) := by decide +kernel
theorem dX5_nodeReadAt_32 : decode cX5_nodeReadAt 32 = .ok (.iload_n 3, 1) := by decide +kernel
theorem dX5_nodeReadAt_33 : decode cX5_nodeReadAt 33 = .ok (.iconst 1, 1) := by decide +kernel
theorem dX5_nodeReadAt_34 : decode cX5_nodeReadAt 34 = .ok (.iadd, 1) := by decide +kernel
theorem dX5_nodeReadAt_35 : decode cX5_nodeReadAt 35 = .ok (.invokevirtual 28, 3) := by decide +kernel
theorem dX5_nodeReadAt_38 : decode cX5_nodeReadAt 38 = .ok (.istore 5, 2) := by decide +kernel
theorem dX5_nodeReadAt_40 : decode cX5_nodeReadAt 40 = .ok (.iload 4, 2) := by decide +kernel
theorem dX5_nodeReadAt_42 : decode cX5_nodeReadAt 42 = .ok (.iconst 2, 1) := by decide +kernel
theorem dX5_nodeReadAt_43 : decode cX5_nodeReadAt 43 = .ok (.if_icmp .eq 9, 3) := by decide +kernel
theorem dX5_nodeReadAt_46 : decode cX5_nodeReadAt 46 = .ok (.iload 4, 2) := by decide +kernel
theorem dX5_nodeReadAt_48 : decode cX5_nodeReadAt 48 = .ok (.iconst 3, 1) := by decide +kernel
theorem dX5_nodeReadAt_49 : decode cX5_nodeReadAt 49 = .ok (.if_icmp .ne 14, 3) := by decide +kernel
theorem dX5_nodeReadAt_52 : decode cX5_nodeReadAt 52 = .ok (.iload_n 1, 1) := by decide +kernel
theorem dX5_nodeReadAt_53 : decode cX5_nodeReadAt 53 = .ok (.iload 4, 2) := by decide +kernel
theorem dX5_nodeReadAt_55 : decode cX5_nodeReadAt 55 = .ok (.iload 5, 2) := by decide +kernel
theorem dX5_nodeReadAt_57 : decode cX5_nodeReadAt 57 = .ok (.invokestatic 61, 3) := by decide +kernel
theorem dX5_nodeReadAt_60 : decode cX5_nodeReadAt 60 = .ok (.goto 4, 3) := by decide +kernel
theorem dX5_nodeReadAt_63 : decode cX5_nodeReadAt 63 = .ok (.iconst (-1), 1) := by decide +kernel
theorem dX5_nodeReadAt_64 : decode cX5_nodeReadAt 64 = .ok (.ireturn, 1) := by decide +kernel
set_option maxRecDepth 20000 in
theorem ggX5_timeOf_X4_get : GoodIn wsX5_timeOf wsX4_get := goodIn_r _ [6, 7, 8, 9, 10, 23, 24, 25, 26] (by decide +kernel) (by decide +kernel)
set_option maxRecDepth 20000 in
theorem gX5_timeOf_X4_get : GoodIn wsX5_timeOf (wsV RX5 28 RX4 yX4_get wsX4_get) := goodIn_app (goodIn_of _ (by decide +kernel)) ggX5_timeOf_X4_get
theorem dX5_timeOf_0 : decode cX5_timeOf 0 = .ok (.aload_n 0, 1) := by decide +kernel
theorem dX5_timeOf_1 : decode cX5_timeOf 1 = .ok (.getfield 20, 3) := by decide +kernel
theorem dX5_timeOf_4 : decode cX5_timeOf 4 = .ok (.getfield 56, 3) := by decide +kernel
theorem dX5_timeOf_7 : decode cX5_timeOf 7 = .ok (.iload_n 1, 1) := by decide +kernel
theorem dX5_timeOf_8 : decode cX5_timeOf 8 = .ok (.iconst 0, 1) := by decide +kernel
theorem dX5_timeOf_9 : decode cX5_timeOf 9 = .ok (.invokevirtual 28, 3) := by decide +kernel
theorem dX5_timeOf_12 : decode cX5_timeOf 12 = .ok (.ireturn, 1) := by decide +kernel
set_option maxRecDepth 20000 in
theorem ggX5_beginAt_X5_howManyRunning : GoodIn wsX5_beginAt wsX5_howManyRunning := goodIn_r _ [6, 1, 7, 8, 9, 10, 11, 12, 13, 14, 15, 43, 44, 45, 46, 47, 48] (by decide +kernel) (by decide +kernel)
set_option maxRecDepth 20000 in
theorem gX5_beginAt_X5_howManyRunning : GoodIn wsX5_beginAt (wsV RX5 65 RX5 yX5_howManyRunning wsX5_howManyRunning) := goodIn_app (goodIn_of _ (by decide +kernel)) ggX5_beginAt_X5_howManyRunning
set_option maxRecDepth 20000 in
theorem ggX5_beginAt_X5_bestToBegin : GoodIn wsX5_beginAt wsX5_bestToBegin := goodIn_r _ [19, 1, 20, 21, 22, 5, 23, 7, 8, 9, 10, 11, 12, 13, 14, 15, 24, 25, 26, 27, 28, 29, 30, 31, 32, 33, 34, 43, 44, 45, 46, 47, 48, 49, 50, 51, 52, 53, 54, 55, 56, 57, 58] (by decide +kernel) (by decide +kernel)
set_option maxRecDepth 20000 in
theorem gX5_beginAt_X5_bestToBegin : GoodIn wsX5_beginAt (wsV RX5 68 RX5 yX5_bestToBegin wsX5_bestToBegin) := goodIn_app (goodIn_of _ (by decide +kernel)) ggX5_beginAt_X5_bestToBegin
set_option maxRecDepth 20000 in
theorem ggX5_beginAt_X5_timeOf : GoodIn wsX5_beginAt wsX5_timeOf := goodIn_r _ [38, 28, 7, 8, 9, 10, 11, 12, 13, 14, 15, 43, 44, 49, 50, 51, 52, 53, 54, 55, 56, 57, 58, 45, 46, 47, 48] (by decide +kernel) (by decide +kernel)
set_option maxRecDepth 20000 in
theorem gX5_beginAt_X5_timeOf : GoodIn wsX5_beginAt (wsV RX5 43 RX5 yX5_timeOf wsX5_timeOf) := goodIn_app (goodIn_of _ (by decide +kernel)) ggX5_beginAt_X5_timeOf
set_option maxRecDepth 20000 in
theorem ggX5_beginAt_X4_set : GoodIn wsX5_beginAt wsX4_set := goodIn_r _ [42, 12, 13, 14, 45, 46, 47, 48] (by decide +kernel) (by decide +kernel)
set_option maxRecDepth 20000 in
theorem gX5_beginAt_X4_set : GoodIn wsX5_beginAt (wsV RX5 46 RX4 yX4_set wsX4_set) := goodIn_app (goodIn_of _ (by decide +kernel)) ggX5_beginAt_X4_set
theorem dX5_beginAt_0 : decode cX5_beginAt 0 = .ok (.iload_n 2, 1) := by decide +kernel
theorem dX5_beginAt_1 : decode cX5_beginAt 1 = .ok (.aload_n 0, 1) := by decide +kernel
theorem dX5_beginAt_2 : decode cX5_beginAt 2 = .ok (.iload_n 1, 1) := by decide +kernel
theorem dX5_beginAt_3 : decode cX5_beginAt 3 = .ok (.invokevirtual 65, 3) := by decide +kernel
theorem dX5_beginAt_6 : decode cX5_beginAt 6 = .ok (.isub, 1) := by decide +kernel
theorem dX5_beginAt_7 : decode cX5_beginAt 7 = .ok (.istore_n 3, 1) := by decide +kernel
theorem dX5_beginAt_8 : decode cX5_beginAt 8 = .ok (.iload_n 3, 1) := by decide +kernel
theorem dX5_beginAt_9 : decode cX5_beginAt 9 = .ok (.ifCond .le 40, 3) := by decide +kernel
theorem dX5_beginAt_12 : decode cX5_beginAt 12 = .ok (.aload_n 0, 1) := by decide +kernel
theorem dX5_beginAt_13 : decode cX5_beginAt 13 = .ok (.iload_n 1, 1) := by decide +kernel
theorem dX5_beginAt_14 : decode cX5_beginAt 14 = .ok (.invokevirtual 68, 3) := by decide +kernel
theorem dX5_beginAt_17 : decode cX5_beginAt 17 = .ok (.istore 4, 2) := by decide +kernel
theorem dX5_beginAt_19 : decode cX5_beginAt 19 = .ok (.iload 4, 2) := by decide +kernel
theorem dX5_beginAt_21 : decode cX5_beginAt 21 = .ok (.iconst (-1), 1) := by decide +kernel
theorem dX5_beginAt_22 : decode cX5_beginAt 22 = .ok (.if_icmp .eq 21, 3) := by decide +kernel
theorem dX5_beginAt_25 : decode cX5_beginAt 25 = .ok (.aload_n 0, 1) := by decide +kernel
theorem dX5_beginAt_26 : decode cX5_beginAt 26 = .ok (.getfield 14, 3) := by decide +kernel
theorem dX5_beginAt_29 : decode cX5_beginAt 29 = .ok (.iload 4, 2) := by decide +kernel
theorem dX5_beginAt_31 : decode cX5_beginAt 31 = .ok (.iconst 1, 1) := by decide +kernel
theorem dX5_beginAt_32 : decode cX5_beginAt 32 = .ok (.iload_n 1, 1) := by decide +kernel
theorem dX5_beginAt_33 : decode cX5_beginAt 33 = .ok (.aload_n 0, 1) := by decide +kernel
theorem dX5_beginAt_34 : decode cX5_beginAt 34 = .ok (.iload 4, 2) := by decide +kernel
theorem dX5_beginAt_36 : decode cX5_beginAt 36 = .ok (.invokevirtual 43, 3) := by decide +kernel
theorem dX5_beginAt_39 : decode cX5_beginAt 39 = .ok (.iadd, 1) := by decide +kernel
theorem dX5_beginAt_40 : decode cX5_beginAt 40 = .ok (.invokevirtual 46, 3) := by decide +kernel
theorem dX5_beginAt_43 : decode cX5_beginAt 43 = .ok (.iinc 3 (-1), 3) := by decide +kernel
theorem dX5_beginAt_46 : decode cX5_beginAt 46 = .ok (.goto (-38), 3) := by decide +kernel
theorem dX5_beginAt_49 : decode cX5_beginAt 49 = .ok (.return_, 1) := by decide +kernel
set_option maxRecDepth 20000 in
theorem ggX5_howManyRunning_X4_get : GoodIn wsX5_howManyRunning wsX4_get := goodIn_r _ [6, 7, 8, 9, 10, 13, 14, 15, 16] (by decide +kernel) (by decide +kernel)
set_option maxRecDepth 20000 in
theorem gX5_howManyRunning_X4_get : GoodIn wsX5_howManyRunning (wsV RX5 28 RX4 yX4_get wsX4_get) := goodIn_app (goodIn_of _ (by decide +kernel)) ggX5_howManyRunning_X4_get
theorem dX5_howManyRunning_0 : decode cX5_howManyRunning 0 = .ok (.iconst 0, 1) := by decide +kernel
theorem dX5_howManyRunning_1 : decode cX5_howManyRunning 1 = .ok (.istore_n 2, 1) := by decide +kernel
theorem dX5_howManyRunning_2 : decode cX5_howManyRunning 2 = .ok (.iconst 0, 1) := by decide +kernel
theorem dX5_howManyRunning_3 : decode cX5_howManyRunning 3 = .ok (.istore_n 3, 1) := by decide +kernel
theorem dX5_howManyRunning_4 : decode cX5_howManyRunning 4 = .ok (.iload_n 3, 1) := by decide +kernel
theorem dX5_howManyRunning_5 : decode cX5_howManyRunning 5 = .ok (.bipush 32, 2) := by decide +kernel
theorem dX5_howManyRunning_7 : decode cX5_howManyRunning 7 = .ok (.if_icmp .ge 25, 3) := by decide +kernel
theorem dX5_howManyRunning_10 : decode cX5_howManyRunning 10 = .ok (.aload_n 0, 1) := by decide +kernel
theorem dX5_howManyRunning_11 : decode cX5_howManyRunning 11 = .ok (.getfield 14, 3) := by decide +kernel
theorem dX5_howManyRunning_14 : decode cX5_howManyRunning 14 = .ok (.iload_n 3, 1) := by decide +kernel
theorem dX5_howManyRunning_15 : decode cX5_howManyRunning 15 = .ok (.iconst 1, 1) := by decide +kernel
theorem dX5_howManyRunning_16 : decode cX5_howManyRunning 16 = .ok (.invokevirtual 28, 3) := by decide +kernel
theorem dX5_howManyRunning_19 : decode cX5_howManyRunning 19 = .ok (.iload_n 1, 1) := by decide +kernel
theorem dX5_howManyRunning_20 : decode cX5_howManyRunning 20 = .ok (.if_icmp .le 6, 3) := by decide +kernel
theorem dX5_howManyRunning_23 : decode cX5_howManyRunning 23 = .ok (.iinc 2 1, 3) := by decide +kernel
theorem dX5_howManyRunning_26 : decode cX5_howManyRunning 26 = .ok (.iinc 3 1, 3) := by decide +kernel
theorem dX5_howManyRunning_29 : decode cX5_howManyRunning 29 = .ok (.goto (-25), 3) := by decide +kernel
theorem dX5_howManyRunning_32 : decode cX5_howManyRunning 32 = .ok (.iload_n 2, 1) := by decide +kernel
theorem dX5_howManyRunning_33 : decode cX5_howManyRunning 33 = .ok (.ireturn, 1) := by decide +kernel
set_option maxRecDepth 20000 in
theorem ggX5_bestToBegin_X5_canBegin : GoodIn wsX5_bestToBegin wsX5_canBegin := goodIn_r _ [6, 1, 7, 8, 9, 10, 11, 12, 13, 14, 15, 16, 17, 18, 5, 19, 20, 21, 22, 23, 24, 25, 26, 27, 28, 29, 30, 31, 32, 33, 34, 35, 36, 37, 38, 39, 40, 41, 42] (by decide +kernel) (by decide +kernel)
set_option maxRecDepth 20000 in
theorem gX5_bestToBegin_X5_canBegin : GoodIn wsX5_bestToBegin (wsV RX5 71 RX5 yX5_canBegin wsX5_canBegin) := goodIn_app (goodIn_of _ (by decide +kernel)) ggX5_bestToBegin_X5_canBegin
set_option maxRecDepth 20000 in
theorem ggX5_bestToBegin_X4_get : GoodIn wsX5_bestToBegin wsX4_get := goodIn_r _ [11, 12, 13, 14, 15, 29, 30, 31, 32] (by decide +kernel) (by decide +kernel)
set_option maxRecDepth 20000 in
theorem gX5_bestToBegin_X4_get : GoodIn wsX5_bestToBegin (wsV RX5 28 RX4 yX4_get wsX4_get) := goodIn_app (goodIn_of _ (by decide +kernel)) ggX5_bestToBegin_X4_get
theorem dX5_bestToBegin_0 : decode cX5_bestToBegin 0 = .ok (.iconst (-1), 1) := by decide +kernel
theorem dX5_bestToBegin_1 : decode cX5_bestToBegin 1 = .ok (.istore_n 2, 1) := by decide +kernel
theorem dX5_bestToBegin_2 : decode cX5_bestToBegin 2 = .ok (.iconst (-1), 1) := by decide +kernel
theorem dX5_bestToBegin_3 : decode cX5_bestToBegin 3 = .ok (.istore_n 3, 1) := by decide +kernel
theorem dX5_bestToBegin_4 : decode cX5_bestToBegin 4 = .ok (.iconst 0, 1) := by decide +kernel
theorem dX5_bestToBegin_5 : decode cX5_bestToBegin 5 = .ok (.istore 4, 2) := by decide +kernel
theorem dX5_bestToBegin_7 : decode cX5_bestToBegin 7 = .ok (.iload 4, 2) := by decide +kernel
theorem dX5_bestToBegin_9 : decode cX5_bestToBegin 9 = .ok (.bipush 32, 2) := by decide +kernel
theorem dX5_bestToBegin_11 : decode cX5_bestToBegin 11 = .ok (.if_icmp .ge 47, 3) := by decide +kernel
theorem dX5_bestToBegin_14 : decode cX5_bestToBegin 14 = .ok (.aload_n 0, 1) := by decide +kernel
theorem dX5_bestToBegin_15 : decode cX5_bestToBegin 15 = .ok (.iload 4, 2) := by decide +kernel
theorem dX5_bestToBegin_17 : decode cX5_bestToBegin 17 = .ok (.iload_n 1, 1) := by decide +kernel
theorem dX5_bestToBegin_18 : decode cX5_bestToBegin 18 = .ok (.invokevirtual 71, 3) := by decide +kernel
theorem dX5_bestToBegin_21 : decode cX5_bestToBegin 21 = .ok (.ifCond .eq 31, 3) := by decide +kernel
theorem dX5_bestToBegin_24 : decode cX5_bestToBegin 24 = .ok (.aload_n 0, 1) := by decide +kernel
theorem dX5_bestToBegin_25 : decode cX5_bestToBegin 25 = .ok (.getfield 14, 3) := by decide +kernel
theorem dX5_bestToBegin_28 : decode cX5_bestToBegin 28 = .ok (.iload 4, 2) := by decide +kernel
theorem dX5_bestToBegin_30 : decode cX5_bestToBegin 30 = .ok (.iconst 0, 1) := by decide +kernel
theorem dX5_bestToBegin_31 : decode cX5_bestToBegin 31 = .ok (.invokevirtual 28, 3) := by decide +kernel
theorem dX5_bestToBegin_34 : decode cX5_bestToBegin 34 = .ok (.iload_n 3, 1) := by decide +kernel
theorem dX5_bestToBegin_35 : decode cX5_bestToBegin 35 = .ok (.if_icmp .le 17, 3) := by decide +kernel
theorem dX5_bestToBegin_38 : decode cX5_bestToBegin 38 = .ok (.iload 4, 2) := by decide +kernel
theorem dX5_bestToBegin_40 : decode cX5_bestToBegin 40 = .ok (.istore_n 2, 1) := by decide +kernel
theorem dX5_bestToBegin_41 : decode cX5_bestToBegin 41 = .ok (.aload_n 0, 1) := by decide +kernel
theorem dX5_bestToBegin_42 : decode cX5_bestToBegin 42 = .ok (.getfield 14, 3) := by decide +kernel
theorem dX5_bestToBegin_45 : decode cX5_bestToBegin 45 = .ok (.iload 4, 2) := by decide +kernel
theorem dX5_bestToBegin_47 : decode cX5_bestToBegin 47 = .ok (.iconst 0, 1) := by decide +kernel
theorem dX5_bestToBegin_48 : decode cX5_bestToBegin 48 = .ok (.invokevirtual 28, 3) := by decide +kernel
theorem dX5_bestToBegin_51 : decode cX5_bestToBegin 51 = .ok (.istore_n 3, 1) := by decide +kernel
theorem dX5_bestToBegin_52 : decode cX5_bestToBegin 52 = .ok (.iinc 4 1, 3) := by decide +kernel
theorem dX5_bestToBegin_55 : decode cX5_bestToBegin 55 = .ok (.goto (-48), 3) := by decide +kernel
theorem dX5_bestToBegin_58 : decode cX5_bestToBegin 58 = .ok (.iload_n 2, 1) := by decide +kernel
theorem dX5_bestToBegin_59 : decode cX5_bestToBegin 59 = .ok (.ireturn, 1) := by decide +kernel
set_option maxRecDepth 20000 in
theorem ggX5_canBegin_X4_get : GoodIn wsX5_canBegin wsX4_get := goodIn_r _ [6, 7, 8, 9, 10, 25, 26, 27, 28] (by decide +kernel) (by decide +kernel)
set_option maxRecDepth 20000 in
theorem gX5_canBegin_X4_get : GoodIn wsX5_canBegin (wsV RX5 28 RX4 yX4_get wsX4_get) := goodIn_app (goodIn_of _ (by decide +kernel)) ggX5_canBegin_X4_get
set_option maxRecDepth 20000 in
theorem ggX5_canBegin_X5_nodeReadAt : GoodIn wsX5_canBegin wsX5_nodeReadAt := goodIn_r _ [15, 16, 2, 3, 4, 5, 6, 7, 8, 9, 10, 17, 18, 19, 20, 21, 22, 23, 24, 29, 30, 31, 32, 33, 34, 35, 36, 37, 38, 25, 26, 27, 28] (by decide +kernel) (by decide +kernel)
set_option maxRecDepth 20000 in
theorem gX5_canBegin_X5_nodeReadAt : GoodIn wsX5_canBegin (wsV RX5 53 RX5 yX5_nodeReadAt wsX5_nodeReadAt) := goodIn_app (goodIn_of _ (by decide +kernel)) ggX5_canBegin_X5_nodeReadAt
theorem dX5_canBegin_0 : decode cX5_canBegin 0 = .ok (.aload_n 0, 1) := by decide +kernel
theorem dX5_canBegin_1 : decode cX5_canBegin 1 = .ok (.getfield 14, 3) := by decide +kernel
theorem dX5_canBegin_4 : decode cX5_canBegin 4 = .ok (.iload_n 1, 1) := by decide +kernel
theorem dX5_canBegin_5 : decode cX5_canBegin 5 = .ok (.iconst 0, 1) := by decide +kernel
theorem dX5_canBegin_6 : decode cX5_canBegin 6 = .ok (.invokevirtual 28, 3) := by decide +kernel
theorem dX5_canBegin_9 : decode cX5_canBegin 9 = .ok (.iconst (-1), 1) := by decide +kernel
theorem dX5_canBegin_10 : decode cX5_canBegin 10 = .ok (.if_icmp .eq 16, 3) := by decide +kernel
theorem dX5_canBegin_13 : decode cX5_canBegin 13 = .ok (.aload_n 0, 1) := by decide +kernel
theorem dX5_canBegin_14 : decode cX5_canBegin 14 = .ok (.getfield 14, 3) := by decide +kernel
theorem dX5_canBegin_17 : decode cX5_canBegin 17 = .ok (.iload_n 1, 1) := by decide +kernel
theorem dX5_canBegin_18 : decode cX5_canBegin 18 = .ok (.iconst 1, 1) := by decide +kernel
theorem dX5_canBegin_19 : decode cX5_canBegin 19 = .ok (.invokevirtual 28, 3) := by decide +kernel
theorem dX5_canBegin_22 : decode cX5_canBegin 22 = .ok (.iconst (-1), 1) := by decide +kernel
theorem dX5_canBegin_23 : decode cX5_canBegin 23 = .ok (.if_icmp .eq 5, 3) := by decide +kernel
theorem dX5_canBegin_26 : decode cX5_canBegin 26 = .ok (.iconst 0, 1) := by decide +kernel
theorem dX5_canBegin_27 : decode cX5_canBegin 27 = .ok (.ireturn, 1) := by decide +kernel
theorem dX5_canBegin_28 : decode cX5_canBegin 28 = .ok (.iconst 0, 1) := by decide +kernel
theorem dX5_canBegin_29 : decode cX5_canBegin 29 = .ok (.istore_n 3, 1) := by decide +kernel
theorem dX5_canBegin_30 : decode cX5_canBegin 30 = .ok (.iload_n 3, 1) := by decide +kernel
theorem dX5_canBegin_31 : decode cX5_canBegin 31 = .ok (.iconst 5, 1) := by decide +kernel
theorem dX5_canBegin_32 : decode cX5_canBegin 32 = .ok (.if_icmp .ge 53, 3) := by decide +kernel
theorem dX5_canBegin_35 : decode cX5_canBegin 35 = .ok (.aload_n 0, 1) := by decide +kernel
theorem dX5_canBegin_36 : decode cX5_canBegin 36 = .ok (.iload_n 1, 1) := by decide +kernel
theorem dX5_canBegin_37 : decode cX5_canBegin 37 = .ok (.iload_n 3, 1) := by decide +kernel
theorem dX5_canBegin_38 : decode cX5_canBegin 38 = .ok (.invokevirtual 53, 3) := by decide +kernel
theorem dX5_canBegin_41 : decode cX5_canBegin 41 = .ok (.istore 4, 2) := by decide +kernel
theorem dX5_canBegin_43 : decode cX5_canBegin 43 = .ok (.iload 4, 2) := by decide +kernel
theorem dX5_canBegin_45 : decode cX5_canBegin 45 = .ok (.iconst (-1), 1) := by decide +kernel
theorem dX5_canBegin_46 : decode cX5_canBegin 46 = .ok (.if_icmp .ne 7, 3) := by decide +kernel
theorem dX5_canBegin_49 : decode cX5_canBegin 49 = .ok (.iconst 0, 1) := by decide +kernel
theorem dX5_canBegin_50 : decode cX5_canBegin 50 = .ok (.goto 13, 3) := by decide +kernel
theorem dX5_canBegin_53 : decode cX5_canBegin 53 = .ok (.aload_n 0, 1) := by decide +kernel
theorem dX5_canBegin_54 : decode cX5_canBegin 54 = .ok (.getfield 14, 3) := by decide +kernel
theorem dX5_canBegin_57 : decode cX5_canBegin 57 = .ok (.iload 4, 2) := by decide +kernel
theorem dX5_canBegin_59 : decode cX5_canBegin 59 = .ok (.iconst 1, 1) := by decide +kernel
theorem dX5_canBegin_60 : decode cX5_canBegin 60 = .ok (.invokevirtual 28, 3) := by decide +kernel
theorem dX5_canBegin_63 : decode cX5_canBegin 63 = .ok (.istore 5, 2) := by decide +kernel
theorem dX5_canBegin_65 : decode cX5_canBegin 65 = .ok (.iload 5, 2) := by decide +kernel
theorem dX5_canBegin_67 : decode cX5_canBegin 67 = .ok (.iconst (-1), 1) := by decide +kernel
theorem dX5_canBegin_68 : decode cX5_canBegin 68 = .ok (.if_icmp .eq 9, 3) := by decide +kernel
theorem dX5_canBegin_71 : decode cX5_canBegin 71 = .ok (.iload 5, 2) := by decide +kernel
theorem dX5_canBegin_73 : decode cX5_canBegin 73 = .ok (.iload_n 2, 1) := by decide +kernel
theorem dX5_canBegin_74 : decode cX5_canBegin 74 = .ok (.if_icmp .le 5, 3) := by decide +kernel
theorem dX5_canBegin_77 : decode cX5_canBegin 77 = .ok (.iconst 0, 1) := by decide +kernel
theorem dX5_canBegin_78 : decode cX5_canBegin 78 = .ok (.ireturn, 1) := by decide +kernel
theorem dX5_canBegin_79 : decode cX5_canBegin 79 = .ok (.iinc 3 1, 3) := by decide +kernel
theorem dX5_canBegin_82 : decode cX5_canBegin 82 = .ok (.goto (-52), 3) := by decide +kernel
theorem dX5_canBegin_85 : decode cX5_canBegin 85 = .ok (.iconst 1, 1) := by decide +kernel
theorem dX5_canBegin_86 : decode cX5_canBegin 86 = .ok (.ireturn, 1) := by decide +kernel
set_option maxRecDepth 20000 in
theorem ggX5_nextEnd_X4_get : GoodIn wsX5_nextEnd wsX4_get := goodIn_r _ [6, 7, 8, 9, 10, 13, 14, 15, 16] (by decide +kernel) (by decide +kernel)
set_option maxRecDepth 20000 in
theorem gX5_nextEnd_X4_get : GoodIn wsX5_nextEnd (wsV RX5 28 RX4 yX4_get wsX4_get) := goodIn_app (goodIn_of _ (by decide +kernel)) ggX5_nextEnd_X4_get
theorem dX5_nextEnd_0 : decode cX5_nextEnd 0 = .ok (.iconst (-1), 1) := by decide +kernel
theorem dX5_nextEnd_1 : decode cX5_nextEnd 1 = .ok (.istore_n 2, 1) := by decide +kernel
theorem dX5_nextEnd_2 : decode cX5_nextEnd 2 = .ok (.iconst 0, 1) := by decide +kernel
theorem dX5_nextEnd_3 : decode cX5_nextEnd 3 = .ok (.istore_n 3, 1) := by decide +kernel
theorem dX5_nextEnd_4 : decode cX5_nextEnd 4 = .ok (.iload_n 3, 1) := by decide +kernel
theorem dX5_nextEnd_5 : decode cX5_nextEnd 5 = .ok (.bipush 32, 2) := by decide +kernel
theorem dX5_nextEnd_7 : decode cX5_nextEnd 7 = .ok (.if_icmp .ge 40, 3) := by decide +kernel
theorem dX5_nextEnd_10 : decode cX5_nextEnd 10 = .ok (.aload_n 0, 1) := by decide +kernel
theorem dX5_nextEnd_11 : decode cX5_nextEnd 11 = .ok (.getfield 14, 3) := by decide +kernel
theorem dX5_nextEnd_14 : decode cX5_nextEnd 14 = .ok (.iload_n 3, 1) := by decide +kernel
theorem dX5_nextEnd_15 : decode cX5_nextEnd 15 = .ok (.iconst 1, 1) := by decide +kernel
theorem dX5_nextEnd_16 : decode cX5_nextEnd 16 = .ok (.invokevirtual 28, 3) := by decide +kernel
theorem dX5_nextEnd_19 : decode cX5_nextEnd 19 = .ok (.istore 4, 2) := by decide +kernel
theorem dX5_nextEnd_21 : decode cX5_nextEnd 21 = .ok (.iload 4, 2) := by decide +kernel
theorem dX5_nextEnd_23 : decode cX5_nextEnd 23 = .ok (.iload_n 1, 1) := by decide +kernel
theorem dX5_nextEnd_24 : decode cX5_nextEnd 24 = .ok (.if_icmp .le 17, 3) := by decide +kernel
theorem dX5_nextEnd_27 : decode cX5_nextEnd 27 = .ok (.iload_n 2, 1) := by decide +kernel
theorem dX5_nextEnd_28 : decode cX5_nextEnd 28 = .ok (.iconst (-1), 1) := by decide +kernel
theorem dX5_nextEnd_29 : decode cX5_nextEnd 29 = .ok (.if_icmp .eq 9, 3) := by decide +kernel
theorem dX5_nextEnd_32 : decode cX5_nextEnd 32 = .ok (.iload 4, 2) := by decide +kernel
theorem dX5_nextEnd_34 : decode cX5_nextEnd 34 = .ok (.iload_n 2, 1) := by decide +kernel
theorem dX5_nextEnd_35 : decode cX5_nextEnd 35 = .ok (.if_icmp .ge 6, 3) := by decide +kernel
theorem dX5_nextEnd_38 : decode cX5_nextEnd 38 = .ok (.iload 4, 2) := by decide +kernel
theorem dX5_nextEnd_40 : decode cX5_nextEnd 40 = .ok (.istore_n 2, 1) := by decide +kernel
theorem dX5_nextEnd_41 : decode cX5_nextEnd 41 = .ok (.iinc 3 1, 3) := by decide +kernel
theorem dX5_nextEnd_44 : decode cX5_nextEnd 44 = .ok (.goto (-40), 3) := by decide +kernel
theorem dX5_nextEnd_47 : decode cX5_nextEnd 47 = .ok (.iload_n 2, 1) := by decide +kernel
theorem dX5_nextEnd_48 : decode cX5_nextEnd 48 = .ok (.ireturn, 1) := by decide +kernel
set_option maxRecDepth 20000 in
theorem ggX6_init_X4_init : GoodIn wsX6_init wsX4_init := goodIn_r _ [33, 34, 2, 3, 35, 36, 37, 38, 39, 83, 84, 85, 86] (by decide +kernel) (by decide +kernel)
set_option maxRecDepth 20000 in
theorem gX6_init_X4_init : GoodIn wsX6_init (wsX4_init) := ggX6_init_X4_init
set_option maxRecDepth 20000 in
theorem ggX6_init_X0_init : GoodIn wsX6_init wsX0_init := goodIn_r _ [41, 42, 2, 3, 43, 5, 6, 44, 45, 32, 33, 34, 35, 36, 37, 38, 39, 83, 84, 85, 86, 96, 97, 98] (by decide +kernel) (by decide +kernel)
set_option maxRecDepth 20000 in
theorem gX6_init_X0_init_n26 : GoodIn wsX6_init (wsX0_init) := ggX6_init_X0_init
set_option maxRecDepth 20000 in
theorem ggX6_init_X3_init : GoodIn wsX6_init wsX3_init := goodIn_r _ [47, 48, 2, 3, 49, 5, 6, 50, 51, 52, 32, 33, 34, 35, 36, 37, 38, 39, 83, 84, 85, 86, 99, 100, 101, 102] (by decide +kernel) (by decide +kernel)
set_option maxRecDepth 20000 in
theorem gX6_init_X3_init_n33 : GoodIn wsX6_init (wsX3_init) := ggX6_init_X3_init
set_option maxRecDepth 20000 in
theorem ggX6_init_X2_init : GoodIn wsX6_init wsX2_init := goodIn_r _ [55, 56, 2, 3, 57, 5, 6, 58, 59, 60, 61, 62, 63, 64, 65, 66, 32, 33, 34, 35, 36, 37, 38, 39, 83, 84, 85, 86, 103, 104, 105, 106, 107, 108, 109, 110, 111, 112] (by decide +kernel) (by decide +kernel)
set_option maxRecDepth 20000 in
theorem gX6_init_X2_init : GoodIn wsX6_init (wsX2_init) := ggX6_init_X2_init
set_option maxRecDepth 20000 in
theorem ggX6_init_X1_init : GoodIn wsX6_init wsX1_init := goodIn_r _ [69, 70, 2, 3, 71, 5, 6, 72, 73, 74, 32, 33, 34, 35, 36, 37, 38, 39, 83, 84, 85, 86, 113, 114] (by decide +kernel) (by decide +kernel)
set_option maxRecDepth 20000 in
theorem gX6_init_X1_init : GoodIn wsX6_init (wsX1_init) := ggX6_init_X1_init
set_option maxRecDepth 20000 in
theorem ggX6_init_X5_init : GoodIn wsX6_init wsX5_init := goodIn_r _ [77, 78, 2, 3, 79, 5, 6, 80, 81, 82, 32, 33, 34, 35, 36, 37, 38, 39, 83, 84, 85, 86, 115, 116] (by decide +kernel) (by decide +kernel)
set_option maxRecDepth 20000 in
theorem gX6_init_X5_init : GoodIn wsX6_init (wsX5_init) := ggX6_init_X5_init
theorem dX6_init_0 : decode cX6_init 0 = .ok (.aload_n 0, 1) := by decide +kernel
theorem dX6_init_1 : decode cX6_init 1 = .ok (.invokespecial 1, 3) := by decide +kernel
theorem dX6_init_4 : decode cX6_init 4 = .ok (.aload_n 0, 1) := by decide +kernel
theorem dX6_init_5 : decode cX6_init 5 = .ok (.new 7, 3) := by decide +kernel
theorem dX6_init_8 : decode cX6_init 8 = .ok (.dup, 1) := by decide +kernel
theorem dX6_init_9 : decode cX6_init 9 = .ok (.iconst 4, 1) := by decide +kernel
theorem dX6_init_10 : decode cX6_init 10 = .ok (.iconst 5, 1) := by decide +kernel
theorem dX6_init_11 : decode cX6_init 11 = .ok (.iconst (-1), 1) := by decide +kernel
theorem dX6_init_12 : decode cX6_init 12 = .ok (.invokespecial 11, 3) := by decide +kernel
theorem dX6_init_15 : decode cX6_init 15 = .ok (.putfield 14, 3) := by decide +kernel
theorem dX6_init_18 : decode cX6_init 18 = .ok (.aload_n 0, 1) := by decide +kernel
theorem dX6_init_19 : decode cX6_init 19 = .ok (.new 7, 3) := by decide +kernel
theorem dX6_init_22 : decode cX6_init 22 = .ok (.dup, 1) := by decide +kernel
theorem dX6_init_23 : decode cX6_init 23 = .ok (.bipush 16, 2) := by decide +kernel
theorem dX6_init_25 : decode cX6_init 25 = .ok (.bipush 13, 2) := by decide +kernel
theorem dX6_init_27 : decode cX6_init 27 = .ok (.iconst (-1), 1) := by decide +kernel
theorem dX6_init_28 : decode cX6_init 28 = .ok (.invokespecial 11, 3) := by decide +kernel
theorem dX6_init_31 : decode cX6_init 31 = .ok (.putfield 18, 3) := by decide +kernel
theorem dX6_init_34 : decode cX6_init 34 = .ok (.aload_n 0, 1) := by decide +kernel
theorem dX6_init_35 : decode cX6_init 35 = .ok (.new 7, 3) := by decide +kernel
theorem dX6_init_38 : decode cX6_init 38 = .ok (.dup, 1) := by decide +kernel
theorem dX6_init_39 : decode cX6_init 39 = .ok (.bipush 32, 2) := by decide +kernel
theorem dX6_init_41 : decode cX6_init 41 = .ok (.bipush 53, 2) := by decide +kernel
theorem dX6_init_43 : decode cX6_init 43 = .ok (.iconst (-1), 1) := by decide +kernel
theorem dX6_init_44 : decode cX6_init 44 = .ok (.invokespecial 11, 3) := by decide +kernel
theorem dX6_init_47 : decode cX6_init 47 = .ok (.putfield 21, 3) := by decide +kernel
theorem dX6_init_50 : decode cX6_init 50 = .ok (.aload_n 0, 1) := by decide +kernel
theorem dX6_init_51 : decode cX6_init 51 = .ok (.new 24, 3) := by decide +kernel
theorem dX6_init_54 : decode cX6_init 54 = .ok (.dup, 1) := by decide +kernel
theorem dX6_init_55 : decode cX6_init 55 = .ok (.invokespecial 26, 3) := by decide +kernel
theorem dX6_init_58 : decode cX6_init 58 = .ok (.putfield 27, 3) := by decide +kernel
theorem dX6_init_61 : decode cX6_init 61 = .ok (.aload_n 0, 1) := by decide +kernel
theorem dX6_init_62 : decode cX6_init 62 = .ok (.new 31, 3) := by decide +kernel
theorem dX6_init_65 : decode cX6_init 65 = .ok (.dup, 1) := by decide +kernel
theorem dX6_init_66 : decode cX6_init 66 = .ok (.invokespecial 33, 3) := by decide +kernel
theorem dX6_init_69 : decode cX6_init 69 = .ok (.putfield 34, 3) := by decide +kernel
theorem dX6_init_72 : decode cX6_init 72 = .ok (.aload_n 0, 1) := by decide +kernel
theorem dX6_init_73 : decode cX6_init 73 = .ok (.new 38, 3) := by decide +kernel
theorem dX6_init_76 : decode cX6_init 76 = .ok (.dup, 1) := by decide +kernel
theorem dX6_init_77 : decode cX6_init 77 = .ok (.aload_n 0, 1) := by decide +kernel
theorem dX6_init_78 : decode cX6_init 78 = .ok (.getfield 14, 3) := by decide +kernel
theorem dX6_init_81 : decode cX6_init 81 = .ok (.aload_n 0, 1) := by decide +kernel
theorem dX6_init_82 : decode cX6_init 82 = .ok (.getfield 18, 3) := by decide +kernel
theorem dX6_init_85 : decode cX6_init 85 = .ok (.aload_n 0, 1) := by decide +kernel
theorem dX6_init_86 : decode cX6_init 86 = .ok (.getfield 21, 3) := by decide +kernel
theorem dX6_init_89 : decode cX6_init 89 = .ok (.aload_n 0, 1) := by decide +kernel
theorem dX6_init_90 : decode cX6_init 90 = .ok (.getfield 27, 3) := by decide +kernel
theorem dX6_init_93 : decode cX6_init 93 = .ok (.aload_n 0, 1) := by decide +kernel
theorem dX6_init_94 : decode cX6_init 94 = .ok (.getfield 34, 3) := by decide +kernel
theorem dX6_init_97 : decode cX6_init 97 = .ok (.iconst 0, 1) := by decide +kernel
theorem dX6_init_98 : decode cX6_init 98 = .ok (.invokespecial 40, 3) := by decide +kernel
theorem dX6_init_101 : decode cX6_init 101 = .ok (.putfield 43, 3) := by decide +kernel
theorem dX6_init_104 : decode cX6_init 104 = .ok (.aload_n 0, 1) := by decide +kernel
theorem dX6_init_105 : decode cX6_init 105 = .ok (.new 38, 3) := by decide +kernel
theorem dX6_init_108 : decode cX6_init 108 = .ok (.dup, 1) := by decide +kernel
theorem dX6_init_109 : decode cX6_init 109 = .ok (.aload_n 0, 1) := by decide +kernel
theorem dX6_init_110 : decode cX6_init 110 = .ok (.getfield 14, 3) := by decide +kernel
theorem dX6_init_113 : decode cX6_init 113 = .ok (.aload_n 0, 1) := by decide +kernel
theorem dX6_init_114 : decode cX6_init 114 = .ok (.getfield 18, 3) := by decide +kernel
theorem dX6_init_117 : decode cX6_init 117 = .ok (.aload_n 0, 1) := by decide +kernel
theorem dX6_init_118 : decode cX6_init 118 = .ok (.getfield 21, 3) := by decide +kernel
theorem dX6_init_121 : decode cX6_init 121 = .ok (.aload_n 0, 1) := by decide +kernel
theorem dX6_init_122 : decode cX6_init 122 = .ok (.getfield 27, 3) := by decide +kernel
theorem dX6_init_125 : decode cX6_init 125 = .ok (.aload_n 0, 1) := by decide +kernel
theorem dX6_init_126 : decode cX6_init 126 = .ok (.getfield 34, 3) := by decide +kernel
theorem dX6_init_129 : decode cX6_init 129 = .ok (.iconst 1, 1) := by decide +kernel
theorem dX6_init_130 : decode cX6_init 130 = .ok (.invokespecial 40, 3) := by decide +kernel
theorem dX6_init_133 : decode cX6_init 133 = .ok (.putfield 47, 3) := by decide +kernel
theorem dX6_init_136 : decode cX6_init 136 = .ok (.aload_n 0, 1) := by decide +kernel
theorem dX6_init_137 : decode cX6_init 137 = .ok (.new 50, 3) := by decide +kernel
theorem dX6_init_140 : decode cX6_init 140 = .ok (.dup, 1) := by decide +kernel
theorem dX6_init_141 : decode cX6_init 141 = .ok (.aload_n 0, 1) := by decide +kernel
theorem dX6_init_142 : decode cX6_init 142 = .ok (.getfield 18, 3) := by decide +kernel
theorem dX6_init_145 : decode cX6_init 145 = .ok (.invokespecial 52, 3) := by decide +kernel
theorem dX6_init_148 : decode cX6_init 148 = .ok (.putfield 55, 3) := by decide +kernel
theorem dX6_init_151 : decode cX6_init 151 = .ok (.aload_n 0, 1) := by decide +kernel
theorem dX6_init_152 : decode cX6_init 152 = .ok (.new 59, 3) := by decide +kernel
theorem dX6_init_155 : decode cX6_init 155 = .ok (.dup, 1) := by decide +kernel
theorem dX6_init_156 : decode cX6_init 156 = .ok (.aload_n 0, 1) := by decide +kernel
theorem dX6_init_157 : decode cX6_init 157 = .ok (.getfield 47, 3) := by decide +kernel
theorem dX6_init_160 : decode cX6_init 160 = .ok (.invokespecial 61, 3) := by decide +kernel
theorem dX6_init_163 : decode cX6_init 163 = .ok (.putfield 64, 3) := by decide +kernel
theorem dX6_init_166 : decode cX6_init 166 = .ok (.return_, 1) := by decide +kernel
set_option maxRecDepth 20000 in
theorem ggX6_write_X6_isValue : GoodIn wsX6_write wsX6_isValue := goodIn_r _ [9] (by decide +kernel) (by decide +kernel)
set_option maxRecDepth 20000 in
theorem gX6_write_X6_isValue : GoodIn wsX6_write (va_wsS RX6 75 yX6_isValue wsX6_isValue) := goodIn_app (goodIn_of _ (by decide +kernel)) ggX6_write_X6_isValue
set_option maxRecDepth 20000 in
theorem ggX6_write_X6_contentOf : GoodIn wsX6_write wsX6_contentOf := goodIn_r _ [12, 13, 14, 15, 16, 17, 18, 19, 20, 21, 35, 36, 37, 38] (by decide +kernel) (by decide +kernel)
set_option maxRecDepth 20000 in
theorem gX6_write_X6_contentOf : GoodIn wsX6_write (va_wsS RX6 84 yX6_contentOf wsX6_contentOf) := goodIn_app (goodIn_of _ (by decide +kernel)) ggX6_write_X6_contentOf
set_option maxRecDepth 20000 in
theorem ggX6_write_X4_set : GoodIn wsX6_write wsX4_set := goodIn_r _ [25, 18, 19, 20, 35, 36, 37, 38] (by decide +kernel) (by decide +kernel)
set_option maxRecDepth 20000 in
theorem gX6_write_X4_set : GoodIn wsX6_write (wsV RX6 88 RX4 yX4_set wsX4_set) := goodIn_app (goodIn_of _ (by decide +kernel)) ggX6_write_X4_set
theorem dX6_write_0 : decode cX6_write 0 = .ok (.iload_n 1, 1) := by decide +kernel
theorem dX6_write_1 : decode cX6_write 1 = .ok (.ifCond .lt 9, 3) := by decide +kernel
theorem dX6_write_4 : decode cX6_write 4 = .ok (.iload_n 1, 1) := by decide +kernel
theorem dX6_write_5 : decode cX6_write 5 = .ok (.bipush 20, 2) := by decide +kernel
theorem dX6_write_7 : decode cX6_write 7 = .ok (.if_icmp .lt 13, 3) := by decide +kernel
theorem dX6_write_10 : decode cX6_write 10 = .ok (.new 68, 3) := by decide +kernel
theorem dX6_write_13 : decode cX6_write 13 = .ok (.dup, 1) := by decide +kernel
theorem dX6_write_14 : decode cX6_write 14 = .ok (.ldc 70, 2) := by decide +kernel
theorem dX6_write_16 : decode cX6_write 16 = .ok (.invokespecial 72, 3) := by decide +kernel
theorem dX6_write_19 : decode cX6_write 19 = .ok (.athrow, 1) := by decide +kernel
theorem dX6_write_20 : decode cX6_write 20 = .ok (.iload_n 2, 1) := by decide +kernel
theorem dX6_write_21 : decode cX6_write 21 = .ok (.iconst (-1), 1) := by decide +kernel
theorem dX6_write_22 : decode cX6_write 22 = .ok (.if_icmp .eq 20, 3) := by decide +kernel
theorem dX6_write_25 : decode cX6_write 25 = .ok (.iload_n 2, 1) := by decide +kernel
theorem dX6_write_26 : decode cX6_write 26 = .ok (.invokestatic 75, 3) := by decide +kernel
theorem dX6_write_29 : decode cX6_write 29 = .ok (.ifCond .ne 13, 3) := by decide +kernel
theorem dX6_write_32 : decode cX6_write 32 = .ok (.new 79, 3) := by decide +kernel
theorem dX6_write_35 : decode cX6_write 35 = .ok (.dup, 1) := by decide +kernel
theorem dX6_write_36 : decode cX6_write 36 = .ok (.ldc 81, 2) := by decide +kernel
theorem dX6_write_38 : decode cX6_write 38 = .ok (.invokespecial 83, 3) := by decide +kernel
theorem dX6_write_41 : decode cX6_write 41 = .ok (.athrow, 1) := by decide +kernel
theorem dX6_write_42 : decode cX6_write 42 = .ok (.aload_n 0, 1) := by decide +kernel
theorem dX6_write_43 : decode cX6_write 43 = .ok (.getfield 14, 3) := by decide +kernel
theorem dX6_write_46 : decode cX6_write 46 = .ok (.iload_n 1, 1) := by decide +kernel
theorem dX6_write_47 : decode cX6_write 47 = .ok (.invokestatic 84, 3) := by decide +kernel
theorem dX6_write_50 : decode cX6_write 50 = .ok (.istore_n 3, 1) := by decide +kernel
theorem dX6_write_51 : decode cX6_write 51 = .ok (.aload_n 0, 1) := by decide +kernel
theorem dX6_write_52 : decode cX6_write 52 = .ok (.getfield 14, 3) := by decide +kernel
theorem dX6_write_55 : decode cX6_write 55 = .ok (.iload_n 1, 1) := by decide +kernel
theorem dX6_write_56 : decode cX6_write 56 = .ok (.iconst 5, 1) := by decide +kernel
theorem dX6_write_57 : decode cX6_write 57 = .ok (.idiv, 1) := by decide +kernel
theorem dX6_write_58 : decode cX6_write 58 = .ok (.iload_n 1, 1) := by decide +kernel
theorem dX6_write_59 : decode cX6_write 59 = .ok (.iconst 5, 1) := by decide +kernel
theorem dX6_write_60 : decode cX6_write 60 = .ok (.irem, 1) := by decide +kernel
theorem dX6_write_61 : decode cX6_write 61 = .ok (.iload_n 2, 1) := by decide +kernel
theorem dX6_write_62 : decode cX6_write 62 = .ok (.invokevirtual 88, 3) := by decide +kernel
theorem dX6_write_65 : decode cX6_write 65 = .ok (.iload_n 3, 1) := by decide +kernel
theorem dX6_write_66 : decode cX6_write 66 = .ok (.ireturn, 1) := by decide +kernel
set_option maxRecDepth 20000 in
theorem ggX6_rule_X6_refuseOtherTargets : GoodIn wsX6_rule wsX6_refuseOtherTargets := goodIn_ca (goodIn_r _ [7, 8, 9] (by decide +kernel) (by decide +kernel)) (goodIn_sub (fun _ h => List.mem_cons_of_mem _ (List.mem_append_right _ h)) (by decide +kernel))
set_option maxRecDepth 20000 in
theorem gX6_rule_X6_refuseOtherTargets : GoodIn wsX6_rule (va_wsS RX6 91 yX6_refuseOtherTargets wsX6_refuseOtherTargets) := goodIn_app (goodIn_of _ (by decide +kernel)) ggX6_rule_X6_refuseOtherTargets
set_option maxRecDepth 20000 in
theorem ggX6_rule_X6_isValue : GoodIn wsX6_rule wsX6_isValue := goodIn_r _ [12] (by decide +kernel) (by decide +kernel)
set_option maxRecDepth 20000 in
theorem gX6_rule_X6_isValue : GoodIn wsX6_rule (va_wsS RX6 75 yX6_isValue wsX6_isValue) := goodIn_app (goodIn_of _ (by decide +kernel)) ggX6_rule_X6_isValue
set_option maxRecDepth 20000 in
theorem ggX6_rule_X4_get : GoodIn wsX6_rule wsX4_get := goodIn_r _ [17, 18, 19, 20, 21, 39, 40, 41, 42] (by decide +kernel) (by decide +kernel)
set_option maxRecDepth 20000 in
theorem gX6_rule_X4_get : GoodIn wsX6_rule (wsV RX6 101 RX4 yX4_get wsX4_get) := goodIn_app (goodIn_of _ (by decide +kernel)) ggX6_rule_X4_get
set_option maxRecDepth 20000 in
theorem ggX6_rule_X4_clear : GoodIn wsX6_rule wsX4_clear := goodIn_r _ [25, 18, 19, 20, 21, 39, 40, 41, 42] (by decide +kernel) (by decide +kernel)
set_option maxRecDepth 20000 in
theorem gX6_rule_X4_clear : GoodIn wsX6_rule (wsV RX6 105 RX4 yX4_clear wsX4_clear) := goodIn_app (goodIn_of _ (by decide +kernel)) ggX6_rule_X4_clear
set_option maxRecDepth 20000 in
theorem ggX6_rule_X4_set : GoodIn wsX6_rule wsX4_set := goodIn_r _ [29, 18, 19, 20, 39, 40, 41, 42] (by decide +kernel) (by decide +kernel)
set_option maxRecDepth 20000 in
theorem gX6_rule_X4_set : GoodIn wsX6_rule (wsV RX6 88 RX4 yX4_set wsX4_set) := goodIn_app (goodIn_of _ (by decide +kernel)) ggX6_rule_X4_set
theorem dX6_rule_0 : decode cX6_rule 0 = .ok (.iload_n 1, 1) := by decide +kernel
theorem dX6_rule_1 : decode cX6_rule 1 = .ok (.invokestatic 91, 3) := by decide +kernel
theorem dX6_rule_4 : decode cX6_rule 4 = .ok (.iload_n 2, 1) := by decide +kernel
theorem dX6_rule_5 : decode cX6_rule 5 = .ok (.iconst (-1), 1) := by decide +kernel
theorem dX6_rule_6 : decode cX6_rule 6 = .ok (.if_icmp .lt 8, 3) := by decide +kernel
theorem dX6_rule_9 : decode cX6_rule 9 = .ok (.iload_n 2, 1) := by decide +kernel
theorem dX6_rule_10 : decode cX6_rule 10 = .ok (.iconst 4, 1) := by decide +kernel
theorem dX6_rule_11 : decode cX6_rule 11 = .ok (.if_icmp .le 13, 3) := by decide +kernel
theorem dX6_rule_14 : decode cX6_rule 14 = .ok (.new 79, 3) := by decide +kernel
theorem dX6_rule_17 : decode cX6_rule 17 = .ok (.dup, 1) := by decide +kernel
theorem dX6_rule_18 : decode cX6_rule 18 = .ok (.ldc 95, 2) := by decide +kernel
theorem dX6_rule_20 : decode cX6_rule 20 = .ok (.invokespecial 83, 3) := by decide +kernel
theorem dX6_rule_23 : decode cX6_rule 23 = .ok (.athrow, 1) := by decide +kernel
theorem dX6_rule_24 : decode cX6_rule 24 = .ok (.iload_n 3, 1) := by decide +kernel
theorem dX6_rule_25 : decode cX6_rule 25 = .ok (.invokestatic 75, 3) := by decide +kernel
theorem dX6_rule_28 : decode cX6_rule 28 = .ok (.ifCond .eq 11, 3) := by decide +kernel
theorem dX6_rule_31 : decode cX6_rule 31 = .ok (.iload 4, 2) := by decide +kernel
theorem dX6_rule_33 : decode cX6_rule 33 = .ok (.invokestatic 75, 3) := by decide +kernel
theorem dX6_rule_36 : decode cX6_rule 36 = .ok (.ifCond .ne 13, 3) := by decide +kernel
theorem dX6_rule_39 : decode cX6_rule 39 = .ok (.new 79, 3) := by decide +kernel
theorem dX6_rule_42 : decode cX6_rule 42 = .ok (.dup, 1) := by decide +kernel
theorem dX6_rule_43 : decode cX6_rule 43 = .ok (.ldc 97, 2) := by decide +kernel
theorem dX6_rule_45 : decode cX6_rule 45 = .ok (.invokespecial 83, 3) := by decide +kernel
theorem dX6_rule_48 : decode cX6_rule 48 = .ok (.athrow, 1) := by decide +kernel
theorem dX6_rule_49 : decode cX6_rule 49 = .ok (.iload 5, 2) := by decide +kernel
theorem dX6_rule_51 : decode cX6_rule 51 = .ok (.iconst 1, 1) := by decide +kernel
theorem dX6_rule_52 : decode cX6_rule 52 = .ok (.if_icmp .lt 10, 3) := by decide +kernel
theorem dX6_rule_55 : decode cX6_rule 55 = .ok (.iload 5, 2) := by decide +kernel
theorem dX6_rule_57 : decode cX6_rule 57 = .ok (.bipush 20, 2) := by decide +kernel
theorem dX6_rule_59 : decode cX6_rule 59 = .ok (.if_icmp .le 13, 3) := by decide +kernel
theorem dX6_rule_62 : decode cX6_rule 62 = .ok (.new 79, 3) := by decide +kernel
theorem dX6_rule_65 : decode cX6_rule 65 = .ok (.dup, 1) := by decide +kernel
theorem dX6_rule_66 : decode cX6_rule 66 = .ok (.ldc 99, 2) := by decide +kernel
theorem dX6_rule_68 : decode cX6_rule 68 = .ok (.invokespecial 83, 3) := by decide +kernel
theorem dX6_rule_71 : decode cX6_rule 71 = .ok (.athrow, 1) := by decide +kernel
theorem dX6_rule_72 : decode cX6_rule 72 = .ok (.aload_n 0, 1) := by decide +kernel
theorem dX6_rule_73 : decode cX6_rule 73 = .ok (.getfield 18, 3) := by decide +kernel
theorem dX6_rule_76 : decode cX6_rule 76 = .ok (.iload_n 1, 1) := by decide +kernel
theorem dX6_rule_77 : decode cX6_rule 77 = .ok (.iconst 1, 1) := by decide +kernel
theorem dX6_rule_78 : decode cX6_rule 78 = .ok (.invokevirtual 101, 3) := by decide +kernel
theorem dX6_rule_81 : decode cX6_rule 81 = .ok (.iconst (-1), 1) := by decide +kernel
theorem dX6_rule_82 : decode cX6_rule 82 = .ok (.if_icmp .eq 7, 3) := by decide +kernel
theorem dX6_rule_85 : decode cX6_rule 85 = .ok (.iconst 1, 1) := by decide +kernel
theorem dX6_rule_86 : decode cX6_rule 86 = .ok (.goto 4, 3) := by decide +kernel
theorem dX6_rule_89 : decode cX6_rule 89 = .ok (.iconst 0, 1) := by decide +kernel
theorem dX6_rule_90 : decode cX6_rule 90 = .ok (.istore 6, 2) := by decide +kernel
theorem dX6_rule_92 : decode cX6_rule 92 = .ok (.aload_n 0, 1) := by decide +kernel
theorem dX6_rule_93 : decode cX6_rule 93 = .ok (.getfield 18, 3) := by decide +kernel
theorem dX6_rule_96 : decode cX6_rule 96 = .ok (.iload_n 1, 1) := by decide +kernel
theorem dX6_rule_97 : decode cX6_rule 97 = .ok (.invokevirtual 105, 3) := by decide +kernel
theorem dX6_rule_100 : decode cX6_rule 100 = .ok (.iload_n 2, 1) := by decide +kernel
theorem dX6_rule_101 : decode cX6_rule 101 = .ok (.iconst (-1), 1) := by decide +kernel
theorem dX6_rule_102 : decode cX6_rule 102 = .ok (.if_icmp .eq 55, 3) := by decide +kernel
theorem dX6_rule_105 : decode cX6_rule 105 = .ok (.aload_n 0, 1) := by decide +kernel
theorem dX6_rule_106 : decode cX6_rule 106 = .ok (.getfield 18, 3) := by decide +kernel
theorem dX6_rule_109 : decode cX6_rule 109 = .ok (.iload_n 1, 1) := by decide +kernel
theorem dX6_rule_110 : decode cX6_rule 110 = .ok (.iconst 0, 1) := by decide +kernel
theorem dX6_rule_111 : decode cX6_rule 111 = .ok (.iload 5, 2) := by decide +kernel
theorem dX6_rule_113 : decode cX6_rule 113 = .ok (.invokevirtual 88, 3) := by decide +kernel
theorem dX6_rule_116 : decode cX6_rule 116 = .ok (.aload_n 0, 1) := by decide +kernel
theorem dX6_rule_117 : decode cX6_rule 117 = .ok (.getfield 18, 3) := by decide +kernel
theorem dX6_rule_120 : decode cX6_rule 120 = .ok (.iload_n 1, 1) := by decide +kernel
theorem dX6_rule_121 : decode cX6_rule 121 = .ok (.iconst 1, 1) := by decide +kernel
theorem dX6_rule_122 : decode cX6_rule 122 = .ok (.iload_n 2, 1) := by decide +kernel
theorem dX6_rule_123 : decode cX6_rule 123 = .ok (.invokevirtual 88, 3) := by decide +kernel
theorem dX6_rule_126 : decode cX6_rule 126 = .ok (.aload_n 0, 1) := by decide +kernel
theorem dX6_rule_127 : decode cX6_rule 127 = .ok (.getfield 18, 3) := by decide +kernel
theorem dX6_rule_130 : decode cX6_rule 130 = .ok (.iload_n 1, 1) := by decide +kernel
theorem dX6_rule_131 : decode cX6_rule 131 = .ok (.iconst 2, 1) := by decide +kernel
theorem dX6_rule_132 : decode cX6_rule 132 = .ok (.iload_n 3, 1) := by decide +kernel
theorem dX6_rule_133 : decode cX6_rule 133 = .ok (.invokevirtual 88, 3) := by decide +kernel
theorem dX6_rule_136 : decode cX6_rule 136 = .ok (.aload_n 0, 1) := by decide +kernel
theorem dX6_rule_137 : decode cX6_rule 137 = .ok (.getfield 18, 3) := by decide +kernel
theorem dX6_rule_140 : decode cX6_rule 140 = .ok (.iload_n 1, 1) := by decide +kernel
theorem dX6_rule_141 : decode cX6_rule 141 = .ok (.iconst 3, 1) := by decide +kernel
theorem dX6_rule_142 : decode cX6_rule 142 = .ok (.iload 4, 2) := by decide +kernel
theorem dX6_rule_144 : decode cX6_rule 144 = .ok (.invokevirtual 88, 3) := by decide +kernel
theorem dX6_rule_147 : decode cX6_rule 147 = .ok (.aload_n 0, 1) := by decide +kernel
theorem dX6_rule_148 : decode cX6_rule 148 = .ok (.getfield 18, 3) := by decide +kernel
theorem dX6_rule_151 : decode cX6_rule 151 = .ok (.iload_n 1, 1) := by decide +kernel
theorem dX6_rule_152 : decode cX6_rule 152 = .ok (.iconst 4, 1) := by decide +kernel
theorem dX6_rule_153 : decode cX6_rule 153 = .ok (.iconst 0, 1) := by decide +kernel
theorem dX6_rule_154 : decode cX6_rule 154 = .ok (.invokevirtual 88, 3) := by decide +kernel
theorem dX6_rule_157 : decode cX6_rule 157 = .ok (.iload 6, 2) := by decide +kernel
theorem dX6_rule_159 : decode cX6_rule 159 = .ok (.ireturn, 1) := by decide +kernel
set_option maxRecDepth 20000 in
theorem ggX6_input_X6_refuseOtherTargets : GoodIn wsX6_input wsX6_refuseOtherTargets := goodIn_ca (goodIn_r _ [11, 1, 2] (by decide +kernel) (by decide +kernel)) (goodIn_sub (fun _ h => List.mem_cons_of_mem _ (List.mem_append_left _ (List.mem_append_left _ (List.mem_append_right _ h)))) (by decide +kernel))
set_option maxRecDepth 20000 in
theorem gX6_input_X6_refuseOtherTargets : GoodIn wsX6_input (va_wsS RX6 91 yX6_refuseOtherTargets wsX6_refuseOtherTargets) := goodIn_app (goodIn_of _ (by decide +kernel)) ggX6_input_X6_refuseOtherTargets
set_option maxRecDepth 20000 in
theorem ggX6_input_X6_howManyOf : GoodIn wsX6_input wsX6_howManyOf := goodIn_r _ [14] (by decide +kernel) (by decide +kernel)
set_option maxRecDepth 20000 in
theorem gX6_input_X6_howManyOf : GoodIn wsX6_input (va_wsS RX6 108 yX6_howManyOf wsX6_howManyOf) := goodIn_app (goodIn_of _ (by decide +kernel)) ggX6_input_X6_howManyOf
set_option maxRecDepth 20000 in
theorem ggX6_input_X4_get : GoodIn wsX6_input wsX4_get := goodIn_r _ [19, 20, 21, 22, 23, 37, 38, 39, 40] (by decide +kernel) (by decide +kernel)
set_option maxRecDepth 20000 in
theorem gX6_input_X4_get : GoodIn wsX6_input (wsV RX6 101 RX4 yX4_get wsX4_get) := goodIn_app (goodIn_of _ (by decide +kernel)) ggX6_input_X4_get
set_option maxRecDepth 20000 in
theorem ggX6_input_X4_set : GoodIn wsX6_input wsX4_set := goodIn_r _ [27, 20, 21, 22, 37, 38, 39, 40] (by decide +kernel) (by decide +kernel)
set_option maxRecDepth 20000 in
theorem gX6_input_X4_set : GoodIn wsX6_input (wsV RX6 88 RX4 yX4_set wsX4_set) := goodIn_app (goodIn_of _ (by decide +kernel)) ggX6_input_X4_set
theorem dX6_input_0 : decode cX6_input 0 = .ok (.iload_n 1, 1) := by decide +kernel
theorem dX6_input_1 : decode cX6_input 1 = .ok (.invokestatic 91, 3) := by decide +kernel
theorem dX6_input_4 : decode cX6_input 4 = .ok (.iload_n 2, 1) := by decide +kernel
theorem dX6_input_5 : decode cX6_input 5 = .ok (.ifCond .lt 12, 3) := by decide +kernel
theorem dX6_input_8 : decode cX6_input 8 = .ok (.iload_n 2, 1) := by decide +kernel
theorem dX6_input_9 : decode cX6_input 9 = .ok (.iconst 3, 1) := by decide +kernel
theorem dX6_input_10 : decode cX6_input 10 = .ok (.if_icmp .gt 7, 3) := by decide +kernel
theorem dX6_input_13 : decode cX6_input 13 = .ok (.iconst 1, 1) := by decide +kernel
theorem dX6_input_14 : decode cX6_input 14 = .ok (.goto 4, 3) := by decide +kernel
theorem dX6_input_17 : decode cX6_input 17 = .ok (.iconst 0, 1) := by decide +kernel
theorem dX6_input_18 : decode cX6_input 18 = .ok (.istore 4, 2) := by decide +kernel
theorem dX6_input_20 : decode cX6_input 20 = .ok (.iload 4, 2) := by decide +kernel
theorem dX6_input_22 : decode cX6_input 22 = .ok (.ifCond .eq 25, 3) := by decide +kernel
theorem dX6_input_25 : decode cX6_input 25 = .ok (.iload_n 3, 1) := by decide +kernel
theorem dX6_input_26 : decode cX6_input 26 = .ok (.ifCond .lt 11, 3) := by decide +kernel
theorem dX6_input_29 : decode cX6_input 29 = .ok (.iload_n 3, 1) := by decide +kernel
theorem dX6_input_30 : decode cX6_input 30 = .ok (.iload_n 2, 1) := by decide +kernel
theorem dX6_input_31 : decode cX6_input 31 = .ok (.invokestatic 108, 3) := by decide +kernel
theorem dX6_input_34 : decode cX6_input 34 = .ok (.if_icmp .lt 13, 3) := by decide +kernel
theorem dX6_input_37 : decode cX6_input 37 = .ok (.new 68, 3) := by decide +kernel
theorem dX6_input_40 : decode cX6_input 40 = .ok (.dup, 1) := by decide +kernel
theorem dX6_input_41 : decode cX6_input 41 = .ok (.ldc 112, 2) := by decide +kernel
theorem dX6_input_43 : decode cX6_input 43 = .ok (.invokespecial 72, 3) := by decide +kernel
theorem dX6_input_46 : decode cX6_input 46 = .ok (.athrow, 1) := by decide +kernel
theorem dX6_input_47 : decode cX6_input 47 = .ok (.iload 4, 2) := by decide +kernel
theorem dX6_input_49 : decode cX6_input 49 = .ok (.ifCond .ne 13, 3) := by decide +kernel
theorem dX6_input_52 : decode cX6_input 52 = .ok (.new 79, 3) := by decide +kernel
theorem dX6_input_55 : decode cX6_input 55 = .ok (.dup, 1) := by decide +kernel
theorem dX6_input_56 : decode cX6_input 56 = .ok (.ldc 114, 2) := by decide +kernel
theorem dX6_input_58 : decode cX6_input 58 = .ok (.invokespecial 83, 3) := by decide +kernel
theorem dX6_input_61 : decode cX6_input 61 = .ok (.athrow, 1) := by decide +kernel
theorem dX6_input_62 : decode cX6_input 62 = .ok (.aload_n 0, 1) := by decide +kernel
theorem dX6_input_63 : decode cX6_input 63 = .ok (.getfield 18, 3) := by decide +kernel
theorem dX6_input_66 : decode cX6_input 66 = .ok (.iload_n 1, 1) := by decide +kernel
theorem dX6_input_67 : decode cX6_input 67 = .ok (.iconst 4, 1) := by decide +kernel
theorem dX6_input_68 : decode cX6_input 68 = .ok (.invokevirtual 101, 3) := by decide +kernel
theorem dX6_input_71 : decode cX6_input 71 = .ok (.istore 5, 2) := by decide +kernel
theorem dX6_input_73 : decode cX6_input 73 = .ok (.aload_n 0, 1) := by decide +kernel
theorem dX6_input_74 : decode cX6_input 74 = .ok (.getfield 18, 3) := by decide +kernel
theorem dX6_input_77 : decode cX6_input 77 = .ok (.iload_n 1, 1) := by decide +kernel
theorem dX6_input_78 : decode cX6_input 78 = .ok (.iconst 1, 1) := by decide +kernel
theorem dX6_input_79 : decode cX6_input 79 = .ok (.invokevirtual 101, 3) := by decide +kernel
theorem dX6_input_82 : decode cX6_input 82 = .ok (.iconst (-1), 1) := by decide +kernel
theorem dX6_input_83 : decode cX6_input 83 = .ok (.if_icmp .eq 9, 3) := by decide +kernel
theorem dX6_input_86 : decode cX6_input 86 = .ok (.iload 5, 2) := by decide +kernel
theorem dX6_input_88 : decode cX6_input 88 = .ok (.iconst 4, 1) := by decide +kernel
theorem dX6_input_89 : decode cX6_input 89 = .ok (.if_icmp .lt 13, 3) := by decide +kernel
theorem dX6_input_92 : decode cX6_input 92 = .ok (.new 116, 3) := by decide +kernel
theorem dX6_input_95 : decode cX6_input 95 = .ok (.dup, 1) := by decide +kernel
theorem dX6_input_96 : decode cX6_input 96 = .ok (.ldc 118, 2) := by decide +kernel
theorem dX6_input_98 : decode cX6_input 98 = .ok (.invokespecial 120, 3) := by decide +kernel
theorem dX6_input_101 : decode cX6_input 101 = .ok (.athrow, 1) := by decide +kernel
theorem dX6_input_102 : decode cX6_input 102 = .ok (.aload_n 0, 1) := by decide +kernel
theorem dX6_input_103 : decode cX6_input 103 = .ok (.getfield 18, 3) := by decide +kernel
theorem dX6_input_106 : decode cX6_input 106 = .ok (.iload_n 1, 1) := by decide +kernel
theorem dX6_input_107 : decode cX6_input 107 = .ok (.iconst 5, 1) := by decide +kernel
theorem dX6_input_108 : decode cX6_input 108 = .ok (.iload 5, 2) := by decide +kernel
theorem dX6_input_110 : decode cX6_input 110 = .ok (.iconst 2, 1) := by decide +kernel
theorem dX6_input_111 : decode cX6_input 111 = .ok (.imul, 1) := by decide +kernel
theorem dX6_input_112 : decode cX6_input 112 = .ok (.iadd, 1) := by decide +kernel
theorem dX6_input_113 : decode cX6_input 113 = .ok (.iconst 0, 1) := by decide +kernel
theorem dX6_input_114 : decode cX6_input 114 = .ok (.iadd, 1) := by decide +kernel
theorem dX6_input_115 : decode cX6_input 115 = .ok (.iload_n 2, 1) := by decide +kernel
theorem dX6_input_116 : decode cX6_input 116 = .ok (.invokevirtual 88, 3) := by decide +kernel
theorem dX6_input_119 : decode cX6_input 119 = .ok (.aload_n 0, 1) := by decide +kernel
theorem dX6_input_120 : decode cX6_input 120 = .ok (.getfield 18, 3) := by decide +kernel
theorem dX6_input_123 : decode cX6_input 123 = .ok (.iload_n 1, 1) := by decide +kernel
theorem dX6_input_124 : decode cX6_input 124 = .ok (.iconst 5, 1) := by decide +kernel
theorem dX6_input_125 : decode cX6_input 125 = .ok (.iload 5, 2) := by decide +kernel
theorem dX6_input_127 : decode cX6_input 127 = .ok (.iconst 2, 1) := by decide +kernel
theorem dX6_input_128 : decode cX6_input 128 = .ok (.imul, 1) := by decide +kernel
theorem dX6_input_129 : decode cX6_input 129 = .ok (.iadd, 1) := by decide +kernel
theorem dX6_input_130 : decode cX6_input 130 = .ok (.iconst 1, 1) := by decide +kernel
theorem dX6_input_131 : decode cX6_input 131 = .ok (.iadd, 1) := by decide +kernel
theorem dX6_input_132 : decode cX6_input 132 = .ok (.iload_n 3, 1) := by decide +kernel
theorem dX6_input_133 : decode cX6_input 133 = .ok (.invokevirtual 88, 3) := by decide +kernel
theorem dX6_input_136 : decode cX6_input 136 = .ok (.aload_n 0, 1) := by decide +kernel
theorem dX6_input_137 : decode cX6_input 137 = .ok (.getfield 18, 3) := by decide +kernel
theorem dX6_input_140 : decode cX6_input 140 = .ok (.iload_n 1, 1) := by decide +kernel
theorem dX6_input_141 : decode cX6_input 141 = .ok (.iconst 4, 1) := by decide +kernel
theorem dX6_input_142 : decode cX6_input 142 = .ok (.iload 5, 2) := by decide +kernel
theorem dX6_input_144 : decode cX6_input 144 = .ok (.iconst 1, 1) := by decide +kernel
theorem dX6_input_145 : decode cX6_input 145 = .ok (.iadd, 1) := by decide +kernel
theorem dX6_input_146 : decode cX6_input 146 = .ok (.invokevirtual 88, 3) := by decide +kernel
theorem dX6_input_149 : decode cX6_input 149 = .ok (.iload 5, 2) := by decide +kernel
theorem dX6_input_151 : decode cX6_input 151 = .ok (.iconst 1, 1) := by decide +kernel
theorem dX6_input_152 : decode cX6_input 152 = .ok (.iadd, 1) := by decide +kernel
theorem dX6_input_153 : decode cX6_input 153 = .ok (.ireturn, 1) := by decide +kernel
set_option maxRecDepth 20000 in
theorem ggX6_fails_X6_refuseOtherTargets : GoodIn wsX6_fails wsX6_refuseOtherTargets := goodIn_ca (goodIn_r _ [7, 8, 9] (by decide +kernel) (by decide +kernel)) (goodIn_sub (fun _ h => List.mem_cons_of_mem _ (List.mem_append_right _ h)) (by decide +kernel))
set_option maxRecDepth 20000 in
theorem gX6_fails_X6_refuseOtherTargets : GoodIn wsX6_fails (va_wsS RX6 91 yX6_refuseOtherTargets wsX6_refuseOtherTargets) := goodIn_app (goodIn_of _ (by decide +kernel)) ggX6_fails_X6_refuseOtherTargets
set_option maxRecDepth 20000 in
theorem ggX6_fails_X3_letFail : GoodIn wsX6_fails wsX3_letFail := goodIn_r _ [14, 15, 16, 17, 18, 19, 20, 21, 22, 23, 24, 25, 26, 27, 28, 38, 39, 40, 41, 42, 43, 44, 45] (by decide +kernel) (by decide +kernel)
set_option maxRecDepth 20000 in
theorem gX6_fails_X3_letFail : GoodIn wsX6_fails (wsV RX6 123 RX3 yX3_letFail wsX3_letFail) := goodIn_app (goodIn_of _ (by decide +kernel)) ggX6_fails_X3_letFail
theorem dX6_fails_0 : decode cX6_fails 0 = .ok (.iload_n 1, 1) := by decide +kernel
theorem dX6_fails_1 : decode cX6_fails 1 = .ok (.invokestatic 91, 3) := by decide +kernel
theorem dX6_fails_4 : decode cX6_fails 4 = .ok (.iload_n 2, 1) := by decide +kernel
theorem dX6_fails_5 : decode cX6_fails 5 = .ok (.ifCond .lt 9, 3) := by decide +kernel
theorem dX6_fails_8 : decode cX6_fails 8 = .ok (.iload_n 2, 1) := by decide +kernel
theorem dX6_fails_9 : decode cX6_fails 9 = .ok (.bipush 20, 2) := by decide +kernel
theorem dX6_fails_11 : decode cX6_fails 11 = .ok (.if_icmp .le 13, 3) := by decide +kernel
theorem dX6_fails_14 : decode cX6_fails 14 = .ok (.new 79, 3) := by decide +kernel
theorem dX6_fails_17 : decode cX6_fails 17 = .ok (.dup, 1) := by decide +kernel
theorem dX6_fails_18 : decode cX6_fails 18 = .ok (.ldc 121, 2) := by decide +kernel
theorem dX6_fails_20 : decode cX6_fails 20 = .ok (.invokespecial 83, 3) := by decide +kernel
theorem dX6_fails_23 : decode cX6_fails 23 = .ok (.athrow, 1) := by decide +kernel
theorem dX6_fails_24 : decode cX6_fails 24 = .ok (.aload_n 0, 1) := by decide +kernel
theorem dX6_fails_25 : decode cX6_fails 25 = .ok (.getfield 34, 3) := by decide +kernel
theorem dX6_fails_28 : decode cX6_fails 28 = .ok (.iload_n 1, 1) := by decide +kernel
theorem dX6_fails_29 : decode cX6_fails 29 = .ok (.iload_n 2, 1) := by decide +kernel
theorem dX6_fails_30 : decode cX6_fails 30 = .ok (.invokevirtual 123, 3) := by decide +kernel
theorem dX6_fails_33 : decode cX6_fails 33 = .ok (.ireturn, 1) := by decide +kernel
set_option maxRecDepth 20000 in
theorem ggX6_poison_X3_bringBack : GoodIn wsX6_poison wsX3_bringBack := goodIn_r _ [8, 9, 10, 11, 12, 7, 13, 14, 15, 16, 17, 18, 19, 20, 21, 22, 23, 24, 25, 26, 36, 37, 38, 39, 40, 41, 42, 43] (by decide +kernel) (by decide +kernel)
set_option maxRecDepth 20000 in
theorem gX6_poison_X3_bringBack : GoodIn wsX6_poison (wsV RX6 128 RX3 yX3_bringBack wsX3_bringBack) := goodIn_app (goodIn_of _ (by decide +kernel)) ggX6_poison_X3_bringBack
theorem dX6_poison_0 : decode cX6_poison 0 = .ok (.iload_n 1, 1) := by decide +kernel
theorem dX6_poison_1 : decode cX6_poison 1 = .ok (.ifCond .lt 8, 3) := by decide +kernel
theorem dX6_poison_4 : decode cX6_poison 4 = .ok (.iload_n 1, 1) := by decide +kernel
theorem dX6_poison_5 : decode cX6_poison 5 = .ok (.iconst 3, 1) := by decide +kernel
theorem dX6_poison_6 : decode cX6_poison 6 = .ok (.if_icmp .lt 13, 3) := by decide +kernel
theorem dX6_poison_9 : decode cX6_poison 9 = .ok (.new 68, 3) := by decide +kernel
theorem dX6_poison_12 : decode cX6_poison 12 = .ok (.dup, 1) := by decide +kernel
theorem dX6_poison_13 : decode cX6_poison 13 = .ok (.ldc 126, 2) := by decide +kernel
theorem dX6_poison_15 : decode cX6_poison 15 = .ok (.invokespecial 72, 3) := by decide +kernel
theorem dX6_poison_18 : decode cX6_poison 18 = .ok (.athrow, 1) := by decide +kernel
theorem dX6_poison_19 : decode cX6_poison 19 = .ok (.aload_n 0, 1) := by decide +kernel
theorem dX6_poison_20 : decode cX6_poison 20 = .ok (.getfield 34, 3) := by decide +kernel
theorem dX6_poison_23 : decode cX6_poison 23 = .ok (.iload_n 1, 1) := by decide +kernel
theorem dX6_poison_24 : decode cX6_poison 24 = .ok (.iload_n 2, 1) := by decide +kernel
theorem dX6_poison_25 : decode cX6_poison 25 = .ok (.invokevirtual 128, 3) := by decide +kernel
theorem dX6_poison_28 : decode cX6_poison 28 = .ok (.ireturn, 1) := by decide +kernel
theorem dX6_checks_0 : decode cX6_checks 0 = .ok (.aload_n 0, 1) := by decide +kernel
theorem dX6_checks_1 : decode cX6_checks 1 = .ok (.getfield 34, 3) := by decide +kernel
theorem dX6_checks_4 : decode cX6_checks 4 = .ok (.getfield 132, 3) := by decide +kernel
theorem dX6_checks_7 : decode cX6_checks 7 = .ok (.istore_n 2, 1) := by decide +kernel
theorem dX6_checks_8 : decode cX6_checks 8 = .ok (.aload_n 0, 1) := by decide +kernel
theorem dX6_checks_9 : decode cX6_checks 9 = .ok (.getfield 34, 3) := by decide +kernel
theorem dX6_checks_12 : decode cX6_checks 12 = .ok (.iload_n 1, 1) := by decide +kernel
theorem dX6_checks_13 : decode cX6_checks 13 = .ok (.putfield 132, 3) := by decide +kernel
theorem dX6_checks_16 : decode cX6_checks 16 = .ok (.iload_n 2, 1) := by decide +kernel
theorem dX6_checks_17 : decode cX6_checks 17 = .ok (.ireturn, 1) := by decide +kernel
theorem dX6_vanish_0 : decode cX6_vanish 0 = .ok (.iload_n 1, 1) := by decide +kernel
theorem dX6_vanish_1 : decode cX6_vanish 1 = .ok (.ifCond .lt 9, 3) := by decide +kernel
theorem dX6_vanish_4 : decode cX6_vanish 4 = .ok (.iload_n 1, 1) := by decide +kernel
theorem dX6_vanish_5 : decode cX6_vanish 5 = .ok (.bipush 20, 2) := by decide +kernel
theorem dX6_vanish_7 : decode cX6_vanish 7 = .ok (.if_icmp .le 13, 3) := by decide +kernel
theorem dX6_vanish_10 : decode cX6_vanish 10 = .ok (.new 79, 3) := by decide +kernel
theorem dX6_vanish_13 : decode cX6_vanish 13 = .ok (.dup, 1) := by decide +kernel
theorem dX6_vanish_14 : decode cX6_vanish 14 = .ok (.ldc 136, 2) := by decide +kernel
theorem dX6_vanish_16 : decode cX6_vanish 16 = .ok (.invokespecial 83, 3) := by decide +kernel
theorem dX6_vanish_19 : decode cX6_vanish 19 = .ok (.athrow, 1) := by decide +kernel
theorem dX6_vanish_20 : decode cX6_vanish 20 = .ok (.aload_n 0, 1) := by decide +kernel
theorem dX6_vanish_21 : decode cX6_vanish 21 = .ok (.getfield 27, 3) := by decide +kernel
theorem dX6_vanish_24 : decode cX6_vanish 24 = .ok (.getfield 138, 3) := by decide +kernel
theorem dX6_vanish_27 : decode cX6_vanish 27 = .ok (.istore_n 2, 1) := by decide +kernel
theorem dX6_vanish_28 : decode cX6_vanish 28 = .ok (.aload_n 0, 1) := by decide +kernel
theorem dX6_vanish_29 : decode cX6_vanish 29 = .ok (.getfield 27, 3) := by decide +kernel
theorem dX6_vanish_32 : decode cX6_vanish 32 = .ok (.iload_n 1, 1) := by decide +kernel
theorem dX6_vanish_33 : decode cX6_vanish 33 = .ok (.putfield 138, 3) := by decide +kernel
theorem dX6_vanish_36 : decode cX6_vanish 36 = .ok (.iload_n 2, 1) := by decide +kernel
theorem dX6_vanish_37 : decode cX6_vanish 37 = .ok (.ireturn, 1) := by decide +kernel
set_option maxRecDepth 20000 in
theorem ggX6_empty_X6_clearAll : GoodIn wsX6_empty wsX6_clearAll := goodIn_r _ [5, 6, 7, 8, 9, 10, 11, 12, 13, 14, 15, 16, 17, 18, 19, 20, 21, 22, 35, 36, 37, 38] (by decide +kernel) (by decide +kernel)
set_option maxRecDepth 20000 in
theorem gX6_empty_X6_clearAll : GoodIn wsX6_empty (va_wsS RX6 145 yX6_clearAll wsX6_clearAll) := goodIn_app (goodIn_of _ (by decide +kernel)) ggX6_empty_X6_clearAll
theorem dX6_empty_0 : decode cX6_empty 0 = .ok (.aload_n 0, 1) := by decide +kernel
theorem dX6_empty_1 : decode cX6_empty 1 = .ok (.getfield 27, 3) := by decide +kernel
theorem dX6_empty_4 : decode cX6_empty 4 = .ok (.getfield 142, 3) := by decide +kernel
theorem dX6_empty_7 : decode cX6_empty 7 = .ok (.invokestatic 145, 3) := by decide +kernel
theorem dX6_empty_10 : decode cX6_empty 10 = .ok (.ireturn, 1) := by decide +kernel
set_option maxRecDepth 20000 in
theorem ggX6_forget_X6_clearAll : GoodIn wsX6_forget wsX6_clearAll := goodIn_r _ [5, 6, 7, 8, 9, 10, 11, 12, 13, 14, 15, 16, 17, 18, 19, 20, 21, 22, 32, 33, 34, 35] (by decide +kernel) (by decide +kernel)
set_option maxRecDepth 20000 in
theorem gX6_forget_X6_clearAll : GoodIn wsX6_forget (va_wsS RX6 145 yX6_clearAll wsX6_clearAll) := goodIn_app (goodIn_of _ (by decide +kernel)) ggX6_forget_X6_clearAll
theorem dX6_forget_0 : decode cX6_forget 0 = .ok (.aload_n 0, 1) := by decide +kernel
theorem dX6_forget_1 : decode cX6_forget 1 = .ok (.getfield 21, 3) := by decide +kernel
theorem dX6_forget_4 : decode cX6_forget 4 = .ok (.invokestatic 145, 3) := by decide +kernel
theorem dX6_forget_7 : decode cX6_forget 7 = .ok (.ireturn, 1) := by decide +kernel
set_option maxRecDepth 20000 in
theorem ggX6_build_X6_refuseOtherNodes : GoodIn wsX6_build wsX6_refuseOtherNodes := goodIn_ca (goodIn_r _ [5, 6, 7, 8, 9, 4, 10] (by decide +kernel) (by decide +kernel)) (goodIn_sub (fun _ h => List.mem_cons_of_mem _ (List.mem_append_right _ h)) (by decide +kernel))
set_option maxRecDepth 20000 in
theorem gX6_build_X6_refuseOtherNodes : GoodIn wsX6_build (va_wsS RX6 149 yX6_refuseOtherNodes wsX6_refuseOtherNodes) := goodIn_app (goodIn_of _ (by decide +kernel)) ggX6_build_X6_refuseOtherNodes
set_option maxRecDepth 20000 in
theorem ggX6_build_X6_nodeOf : GoodIn wsX6_build wsX6_nodeOf := goodIn_r _ [13] (by decide +kernel) (by decide +kernel)
set_option maxRecDepth 20000 in
theorem gX6_build_X6_nodeOf : GoodIn wsX6_build (va_wsS RX6 153 yX6_nodeOf wsX6_nodeOf) := goodIn_app (goodIn_of _ (by decide +kernel)) ggX6_build_X6_nodeOf
set_option maxRecDepth 20000 in
theorem ggX6_build_X2_start : GoodIn wsX6_build wsX2_start := goodIn_r _ [18, 19, 20, 21, 22, 23, 24, 25, 26, 27, 28, 29, 30, 31, 32, 33, 17, 34, 35, 36, 37, 38, 39, 40, 41, 42, 43, 44, 45, 46, 47, 48, 49, 50, 51, 52, 53, 54, 55, 56, 57, 58, 59, 60, 61, 62, 63, 64, 65, 66, 67, 68, 69, 70, 71, 72, 73, 74, 75, 76, 77, 78, 79, 80, 81, 82, 83, 84, 85, 86, 87, 88, 89, 90, 91, 92, 93, 94, 95, 96, 97, 98, 99, 100, 101, 102, 103, 104, 105, 106, 107, 108, 109, 110, 111, 112, 113, 114, 115, 116, 117, 118, 119, 120, 121, 122, 123, 124, 125, 126, 127, 128, 129, 130, 131, 132, 133, 134, 135, 136, 4, 137, 138, 139, 140, 141, 142, 143, 144, 145, 146, 147, 148, 149, 150, 151, 152, 153, 154, 155, 156, 157, 158, 159, 160, 161, 162, 163, 164, 165, 166, 167, 168, 169, 170, 171, 172, 173, 174, 175, 176, 177, 178, 179, 180, 181, 11, 12, 13, 182, 183, 184, 185, 186, 187, 188, 189, 190, 191, 201, 202, 203, 204, 205, 206, 207, 208, 209, 210, 211, 212, 213, 214, 215, 216, 217, 218, 219, 220, 221] (by decide +kernel) (by decide +kernel)
set_option maxRecDepth 20000 in
theorem gX6_build_X2_start : GoodIn wsX6_build (wsV RX6 156 RX2 yX2_start wsX2_start) := goodIn_app (goodIn_of _ (by decide +kernel)) ggX6_build_X2_start
theorem dX6_build_0 : decode cX6_build 0 = .ok (.iload_n 1, 1) := by decide +kernel
theorem dX6_build_1 : decode cX6_build 1 = .ok (.iload_n 2, 1) := by decide +kernel
theorem dX6_build_2 : decode cX6_build 2 = .ok (.invokestatic 149, 3) := by decide +kernel
theorem dX6_build_5 : decode cX6_build 5 = .ok (.aload_n 0, 1) := by decide +kernel
theorem dX6_build_6 : decode cX6_build 6 = .ok (.getfield 43, 3) := by decide +kernel
theorem dX6_build_9 : decode cX6_build 9 = .ok (.iload_n 1, 1) := by decide +kernel
theorem dX6_build_10 : decode cX6_build 10 = .ok (.iload_n 2, 1) := by decide +kernel
theorem dX6_build_11 : decode cX6_build 11 = .ok (.invokestatic 153, 3) := by decide +kernel
theorem dX6_build_14 : decode cX6_build 14 = .ok (.invokevirtual 156, 3) := by decide +kernel
theorem dX6_build_17 : decode cX6_build 17 = .ok (.ireturn, 1) := by decide +kernel
set_option maxRecDepth 20000 in
theorem ggX6_plain_X6_refuseOtherNodes : GoodIn wsX6_plain wsX6_refuseOtherNodes := goodIn_ca (goodIn_r _ [5, 6, 7, 8, 9, 4, 10] (by decide +kernel) (by decide +kernel)) (goodIn_sub (fun _ h => List.mem_cons_of_mem _ (List.mem_append_right _ h)) (by decide +kernel))
set_option maxRecDepth 20000 in
theorem gX6_plain_X6_refuseOtherNodes : GoodIn wsX6_plain (va_wsS RX6 149 yX6_refuseOtherNodes wsX6_refuseOtherNodes) := goodIn_app (goodIn_of _ (by decide +kernel)) ggX6_plain_X6_refuseOtherNodes
set_option maxRecDepth 20000 in
theorem ggX6_plain_X6_nodeOf : GoodIn wsX6_plain wsX6_nodeOf := goodIn_r _ [13] (by decide +kernel) (by decide +kernel)
set_option maxRecDepth 20000 in
theorem gX6_plain_X6_nodeOf : GoodIn wsX6_plain (va_wsS RX6 153 yX6_nodeOf wsX6_nodeOf) := goodIn_app (goodIn_of _ (by decide +kernel)) ggX6_plain_X6_nodeOf
set_option maxRecDepth 20000 in
theorem ggX6_plain_X2_start : GoodIn wsX6_plain wsX2_start := goodIn_r _ [18, 19, 20, 21, 22, 23, 24, 25, 26, 27, 28, 29, 30, 31, 32, 33, 17, 34, 35, 36, 37, 38, 39, 40, 41, 42, 43, 44, 45, 46, 47, 48, 49, 50, 51, 52, 53, 54, 55, 56, 57, 58, 59, 60, 61, 62, 63, 64, 65, 66, 67, 68, 69, 70, 71, 72, 73, 74, 75, 76, 77, 78, 79, 80, 81, 82, 83, 84, 85, 86, 87, 88, 89, 90, 91, 92, 93, 94, 95, 96, 97, 98, 99, 100, 101, 102, 103, 104, 105, 106, 107, 108, 109, 110, 111, 112, 113, 114, 115, 116, 117, 118, 119, 120, 121, 122, 123, 124, 125, 126, 127, 128, 129, 130, 131, 132, 133, 134, 135, 136, 4, 137, 138, 139, 140, 141, 142, 143, 144, 145, 146, 147, 148, 149, 150, 151, 152, 153, 154, 155, 156, 157, 158, 159, 160, 161, 162, 163, 164, 165, 166, 167, 168, 169, 170, 171, 172, 173, 174, 175, 176, 177, 178, 179, 180, 181, 11, 12, 13, 182, 183, 184, 185, 186, 187, 188, 189, 190, 191, 201, 202, 203, 204, 205, 206, 207, 208, 209, 210, 211, 212, 213, 214, 215, 216, 217, 218, 219, 220, 221] (by decide +kernel) (by decide +kernel)
set_option maxRecDepth 20000 in
theorem gX6_plain_X2_start : GoodIn wsX6_plain (wsV RX6 156 RX2 yX2_start wsX2_start) := goodIn_app (goodIn_of _ (by decide +kernel)) ggX6_plain_X2_start
theorem dX6_plain_0 : decode cX6_plain 0 = .ok (.iload_n 1, 1) := by decide +kernel
theorem dX6_plain_1 : decode cX6_plain 1 = .ok (.iload_n 2, 1) := by decide +kernel
theorem dX6_plain_2 : decode cX6_plain 2 = .ok (.invokestatic 149, 3) := by decide +kernel
theorem dX6_plain_5 : decode cX6_plain 5 = .ok (.aload_n 0, 1) := by decide +kernel
theorem dX6_plain_6 : decode cX6_plain 6 = .ok (.getfield 47, 3) := by decide +kernel
theorem dX6_plain_9 : decode cX6_plain 9 = .ok (.iload_n 1, 1) := by decide +kernel
theorem dX6_plain_10 : decode cX6_plain 10 = .ok (.iload_n 2, 1) := by decide +kernel
theorem dX6_plain_11 : decode cX6_plain 11 = .ok (.invokestatic 153, 3) := by decide +kernel
theorem dX6_plain_14 : decode cX6_plain 14 = .ok (.invokevirtual 156, 3) := by decide +kernel
theorem dX6_plain_17 : decode cX6_plain 17 = .ok (.ireturn, 1) := by decide +kernel
set_option maxRecDepth 20000 in
theorem ggX6_done_X6_refuseOtherNodes : GoodIn wsX6_done wsX6_refuseOtherNodes := goodIn_ca (goodIn_r _ [5, 6, 7, 8, 9, 4, 10] (by decide +kernel) (by decide +kernel)) (goodIn_sub (fun _ h => List.mem_cons_of_mem _ (List.mem_append_right _ h)) (by decide +kernel))
set_option maxRecDepth 20000 in
theorem gX6_done_X6_refuseOtherNodes : GoodIn wsX6_done (va_wsS RX6 149 yX6_refuseOtherNodes wsX6_refuseOtherNodes) := goodIn_app (goodIn_of _ (by decide +kernel)) ggX6_done_X6_refuseOtherNodes
set_option maxRecDepth 20000 in
theorem ggX6_done_X6_nodeOf : GoodIn wsX6_done wsX6_nodeOf := goodIn_r _ [13] (by decide +kernel) (by decide +kernel)
set_option maxRecDepth 20000 in
theorem gX6_done_X6_nodeOf : GoodIn wsX6_done (va_wsS RX6 153 yX6_nodeOf wsX6_nodeOf) := goodIn_app (goodIn_of _ (by decide +kernel)) ggX6_done_X6_nodeOf
set_option maxRecDepth 20000 in
theorem ggX6_done_X4_get : GoodIn wsX6_done wsX4_get := goodIn_r _ [18, 19, 20, 21, 22, 42, 43, 44, 45] (by decide +kernel) (by decide +kernel)
set_option maxRecDepth 20000 in
theorem gX6_done_X4_get : GoodIn wsX6_done (wsV RX6 101 RX4 yX4_get wsX4_get) := goodIn_app (goodIn_of _ (by decide +kernel)) ggX6_done_X4_get
theorem dX6_done_0 : decode cX6_done 0 = .ok (.iload_n 1, 1) := by decide +kernel
theorem dX6_done_1 : decode cX6_done 1 = .ok (.iload_n 2, 1) := by decide +kernel
theorem dX6_done_2 : decode cX6_done 2 = .ok (.invokestatic 149, 3) := by decide +kernel
theorem dX6_done_5 : decode cX6_done 5 = .ok (.aload_n 0, 1) := by decide +kernel
theorem dX6_done_6 : decode cX6_done 6 = .ok (.getfield 43, 3) := by decide +kernel
theorem dX6_done_9 : decode cX6_done 9 = .ok (.getfield 159, 3) := by decide +kernel
theorem dX6_done_12 : decode cX6_done 12 = .ok (.iload_n 1, 1) := by decide +kernel
theorem dX6_done_13 : decode cX6_done 13 = .ok (.iload_n 2, 1) := by decide +kernel
theorem dX6_done_14 : decode cX6_done 14 = .ok (.invokestatic 153, 3) := by decide +kernel
theorem dX6_done_17 : decode cX6_done 17 = .ok (.iconst 0, 1) := by decide +kernel
theorem dX6_done_18 : decode cX6_done 18 = .ok (.invokevirtual 101, 3) := by decide +kernel
theorem dX6_done_21 : decode cX6_done 21 = .ok (.ireturn, 1) := by decide +kernel
set_option maxRecDepth 20000 in
theorem ggX6_why_X6_refuseOtherNodes : GoodIn wsX6_why wsX6_refuseOtherNodes := goodIn_ca (goodIn_r _ [5, 6, 7, 8, 9, 4, 10] (by decide +kernel) (by decide +kernel)) (goodIn_sub (fun _ h => List.mem_cons_of_mem _ (List.mem_append_right _ h)) (by decide +kernel))
set_option maxRecDepth 20000 in
theorem gX6_why_X6_refuseOtherNodes : GoodIn wsX6_why (va_wsS RX6 149 yX6_refuseOtherNodes wsX6_refuseOtherNodes) := goodIn_app (goodIn_of _ (by decide +kernel)) ggX6_why_X6_refuseOtherNodes
set_option maxRecDepth 20000 in
theorem ggX6_why_X6_nodeOf : GoodIn wsX6_why wsX6_nodeOf := goodIn_r _ [13] (by decide +kernel) (by decide +kernel)
set_option maxRecDepth 20000 in
theorem gX6_why_X6_nodeOf : GoodIn wsX6_why (va_wsS RX6 153 yX6_nodeOf wsX6_nodeOf) := goodIn_app (goodIn_of _ (by decide +kernel)) ggX6_why_X6_nodeOf
set_option maxRecDepth 20000 in
theorem ggX6_why_X4_get : GoodIn wsX6_why wsX4_get := goodIn_r _ [18, 19, 20, 21, 22, 42, 43, 44, 45] (by decide +kernel) (by decide +kernel)
set_option maxRecDepth 20000 in
theorem gX6_why_X4_get : GoodIn wsX6_why (wsV RX6 101 RX4 yX4_get wsX4_get) := goodIn_app (goodIn_of _ (by decide +kernel)) ggX6_why_X4_get
theorem dX6_why_0 : decode cX6_why 0 = .ok (.iload_n 1, 1) := by decide +kernel
theorem dX6_why_1 : decode cX6_why 1 = .ok (.iload_n 2, 1) := by decide +kernel
theorem dX6_why_2 : decode cX6_why 2 = .ok (.invokestatic 149, 3) := by decide +kernel
theorem dX6_why_5 : decode cX6_why 5 = .ok (.aload_n 0, 1) := by decide +kernel
theorem dX6_why_6 : decode cX6_why 6 = .ok (.getfield 43, 3) := by decide +kernel
theorem dX6_why_9 : decode cX6_why 9 = .ok (.getfield 159, 3) := by decide +kernel
theorem dX6_why_12 : decode cX6_why 12 = .ok (.iload_n 1, 1) := by decide +kernel
theorem dX6_why_13 : decode cX6_why 13 = .ok (.iload_n 2, 1) := by decide +kernel
theorem dX6_why_14 : decode cX6_why 14 = .ok (.invokestatic 153, 3) := by decide +kernel
theorem dX6_why_17 : decode cX6_why 17 = .ok (.iconst 2, 1) := by decide +kernel
theorem dX6_why_18 : decode cX6_why 18 = .ok (.invokevirtual 101, 3) := by decide +kernel
theorem dX6_why_21 : decode cX6_why 21 = .ok (.ireturn, 1) := by decide +kernel
set_option maxRecDepth 20000 in
theorem ggX6_counts_X2_howMany : GoodIn wsX6_counts wsX2_howMany := goodIn_r _ [8, 9, 10, 11, 12, 13, 14, 15, 16, 17, 18, 28, 29, 30, 31, 32, 33, 34, 35, 36, 37, 38, 39, 40, 41] (by decide +kernel) (by decide +kernel)
set_option maxRecDepth 20000 in
theorem gX6_counts_X2_howMany : GoodIn wsX6_counts (wsV RX6 167 RX2 yX2_howMany wsX2_howMany) := goodIn_app (goodIn_of _ (by decide +kernel)) ggX6_counts_X2_howMany
theorem dX6_counts_0 : decode cX6_counts 0 = .ok (.iload_n 1, 1) := by decide +kernel
theorem dX6_counts_1 : decode cX6_counts 1 = .ok (.ifCond .lt 8, 3) := by decide +kernel
theorem dX6_counts_4 : decode cX6_counts 4 = .ok (.iload_n 1, 1) := by decide +kernel
theorem dX6_counts_5 : decode cX6_counts 5 = .ok (.iconst 4, 1) := by decide +kernel
theorem dX6_counts_6 : decode cX6_counts 6 = .ok (.if_icmp .lt 13, 3) := by decide +kernel
theorem dX6_counts_9 : decode cX6_counts 9 = .ok (.new 79, 3) := by decide +kernel
theorem dX6_counts_12 : decode cX6_counts 12 = .ok (.dup, 1) := by decide +kernel
theorem dX6_counts_13 : decode cX6_counts 13 = .ok (.ldc 162, 2) := by decide +kernel
theorem dX6_counts_15 : decode cX6_counts 15 = .ok (.invokespecial 83, 3) := by decide +kernel
theorem dX6_counts_18 : decode cX6_counts 18 = .ok (.athrow, 1) := by decide +kernel
theorem dX6_counts_19 : decode cX6_counts 19 = .ok (.iload_n 1, 1) := by decide +kernel
theorem dX6_counts_20 : decode cX6_counts 20 = .ok (.ifCond .ne 11, 3) := by decide +kernel
theorem dX6_counts_23 : decode cX6_counts 23 = .ok (.aload_n 0, 1) := by decide +kernel
theorem dX6_counts_24 : decode cX6_counts 24 = .ok (.getfield 43, 3) := by decide +kernel
theorem dX6_counts_27 : decode cX6_counts 27 = .ok (.getfield 164, 3) := by decide +kernel
theorem dX6_counts_30 : decode cX6_counts 30 = .ok (.ireturn, 1) := by decide +kernel
theorem dX6_counts_31 : decode cX6_counts 31 = .ok (.iload_n 1, 1) := by decide +kernel
theorem dX6_counts_32 : decode cX6_counts 32 = .ok (.iconst 1, 1) := by decide +kernel
theorem dX6_counts_33 : decode cX6_counts 33 = .ok (.if_icmp .ne 12, 3) := by decide +kernel
theorem dX6_counts_36 : decode cX6_counts 36 = .ok (.aload_n 0, 1) := by decide +kernel
theorem dX6_counts_37 : decode cX6_counts 37 = .ok (.getfield 43, 3) := by decide +kernel
theorem dX6_counts_40 : decode cX6_counts 40 = .ok (.iconst 2, 1) := by decide +kernel
theorem dX6_counts_41 : decode cX6_counts 41 = .ok (.invokevirtual 167, 3) := by decide +kernel
theorem dX6_counts_44 : decode cX6_counts 44 = .ok (.ireturn, 1) := by decide +kernel
theorem dX6_counts_45 : decode cX6_counts 45 = .ok (.iload_n 1, 1) := by decide +kernel
theorem dX6_counts_46 : decode cX6_counts 46 = .ok (.iconst 2, 1) := by decide +kernel
theorem dX6_counts_47 : decode cX6_counts 47 = .ok (.if_icmp .ne 14, 3) := by decide +kernel
theorem dX6_counts_50 : decode cX6_counts 50 = .ok (.aload_n 0, 1) := by decide +kernel
theorem dX6_counts_51 : decode cX6_counts 51 = .ok (.getfield 43, 3) := by decide +kernel
theorem dX6_counts_54 : decode cX6_counts 54 = .ok (.iconst 1, 1) := by decide +kernel
theorem dX6_counts_55 : decode cX6_counts 55 = .ok (.invokevirtual 167, 3) := by decide +kernel
theorem dX6_counts_58 : decode cX6_counts 58 = .ok (.goto 14, 3) := by decide +kernel
theorem dX6_counts_61 : decode cX6_counts 61 = .ok (.bipush 32, 2) := by decide +kernel
theorem dX6_counts_63 : decode cX6_counts 63 = .ok (.aload_n 0, 1) := by decide +kernel
theorem dX6_counts_64 : decode cX6_counts 64 = .ok (.getfield 43, 3) := by decide +kernel
theorem dX6_counts_67 : decode cX6_counts 67 = .ok (.iconst 0, 1) := by decide +kernel
theorem dX6_counts_68 : decode cX6_counts 68 = .ok (.invokevirtual 167, 3) := by decide +kernel
theorem dX6_counts_71 : decode cX6_counts 71 = .ok (.isub, 1) := by decide +kernel
theorem dX6_counts_72 : decode cX6_counts 72 = .ok (.ireturn, 1) := by decide +kernel
set_option maxRecDepth 20000 in
theorem ggX6_entries_X4_howManyFilled : GoodIn wsX6_entries wsX4_howManyFilled := goodIn_r _ [6, 7, 8, 9, 10, 5, 11, 12, 13, 14, 27, 28, 29, 30] (by decide +kernel) (by decide +kernel)
set_option maxRecDepth 20000 in
theorem gX6_entries_X4_howManyFilled : GoodIn wsX6_entries (wsV RX6 170 RX4 yX4_howManyFilled wsX4_howManyFilled) := goodIn_app (goodIn_of _ (by decide +kernel)) ggX6_entries_X4_howManyFilled
theorem dX6_entries_0 : decode cX6_entries 0 = .ok (.aload_n 0, 1) := by decide +kernel
theorem dX6_entries_1 : decode cX6_entries 1 = .ok (.getfield 27, 3) := by decide +kernel
theorem dX6_entries_4 : decode cX6_entries 4 = .ok (.getfield 142, 3) := by decide +kernel
theorem dX6_entries_7 : decode cX6_entries 7 = .ok (.invokevirtual 170, 3) := by decide +kernel
theorem dX6_entries_10 : decode cX6_entries 10 = .ok (.ireturn, 1) := by decide +kernel
set_option maxRecDepth 20000 in
theorem ggX6_away_X3_allAway : GoodIn wsX6_away wsX3_allAway := goodIn_r _ [6, 7, 8, 9, 5, 10, 11, 12, 13, 14, 15, 16, 17, 18, 19, 20, 30, 31, 32, 33, 34, 35, 36, 37] (by decide +kernel) (by decide +kernel)
set_option maxRecDepth 20000 in
theorem gX6_away_X3_allAway : GoodIn wsX6_away (wsV RX6 174 RX3 yX3_allAway wsX3_allAway) := goodIn_app (goodIn_of _ (by decide +kernel)) ggX6_away_X3_allAway
theorem dX6_away_0 : decode cX6_away 0 = .ok (.aload_n 0, 1) := by decide +kernel
theorem dX6_away_1 : decode cX6_away 1 = .ok (.getfield 34, 3) := by decide +kernel
theorem dX6_away_4 : decode cX6_away 4 = .ok (.invokevirtual 174, 3) := by decide +kernel
theorem dX6_away_7 : decode cX6_away 7 = .ok (.ireturn, 1) := by decide +kernel
theorem dX6_leaks_0 : decode cX6_leaks 0 = .ok (.aload_n 0, 1) := by decide +kernel
theorem dX6_leaks_1 : decode cX6_leaks 1 = .ok (.getfield 43, 3) := by decide +kernel
theorem dX6_leaks_4 : decode cX6_leaks 4 = .ok (.getfield 177, 3) := by decide +kernel
theorem dX6_leaks_7 : decode cX6_leaks 7 = .ok (.ireturn, 1) := by decide +kernel
set_option maxRecDepth 20000 in
theorem ggX6_needs_X6_refuseOtherTargets : GoodIn wsX6_needs wsX6_refuseOtherTargets := goodIn_ca (goodIn_r _ [5, 6, 7] (by decide +kernel) (by decide +kernel)) (goodIn_sub (fun _ h => List.mem_cons_of_mem _ (List.mem_append_right _ h)) (by decide +kernel))
set_option maxRecDepth 20000 in
theorem gX6_needs_X6_refuseOtherTargets : GoodIn wsX6_needs (va_wsS RX6 91 yX6_refuseOtherTargets wsX6_refuseOtherTargets) := goodIn_app (goodIn_of _ (by decide +kernel)) ggX6_needs_X6_refuseOtherTargets
set_option maxRecDepth 20000 in
theorem ggX6_needs_X1_draw : GoodIn wsX6_needs wsX1_draw := goodIn_r _ [12, 13, 14, 15, 16, 11, 17, 18, 19, 20, 21, 22, 23, 24, 25, 26, 27, 28, 29, 30, 31, 48, 49, 50, 51, 52, 53] (by decide +kernel) (by decide +kernel)
set_option maxRecDepth 20000 in
theorem gX6_needs_X1_draw : GoodIn wsX6_needs (wsV RX6 180 RX1 yX1_draw wsX1_draw) := goodIn_app (goodIn_of _ (by decide +kernel)) ggX6_needs_X1_draw
set_option maxRecDepth 20000 in
theorem ggX6_needs_X1_allFrom : GoodIn wsX6_needs wsX1_allFrom := goodIn_r _ [35, 13, 19, 20, 21, 22, 23, 24, 25, 26, 27, 36, 37, 11, 38, 48, 49, 50, 51, 52, 53] (by decide +kernel) (by decide +kernel)
set_option maxRecDepth 20000 in
theorem gX6_needs_X1_allFrom : GoodIn wsX6_needs (wsV RX6 183 RX1 yX1_allFrom wsX1_allFrom) := goodIn_app (goodIn_of _ (by decide +kernel)) ggX6_needs_X1_allFrom
theorem dX6_needs_0 : decode cX6_needs 0 = .ok (.iload_n 1, 1) := by decide +kernel
theorem dX6_needs_1 : decode cX6_needs 1 = .ok (.invokestatic 91, 3) := by decide +kernel
theorem dX6_needs_4 : decode cX6_needs 4 = .ok (.aload_n 0, 1) := by decide +kernel
theorem dX6_needs_5 : decode cX6_needs 5 = .ok (.getfield 55, 3) := by decide +kernel
theorem dX6_needs_8 : decode cX6_needs 8 = .ok (.invokevirtual 180, 3) := by decide +kernel
theorem dX6_needs_11 : decode cX6_needs 11 = .ok (.aload_n 0, 1) := by decide +kernel
theorem dX6_needs_12 : decode cX6_needs 12 = .ok (.getfield 55, 3) := by decide +kernel
theorem dX6_needs_15 : decode cX6_needs 15 = .ok (.iload_n 1, 1) := by decide +kernel
theorem dX6_needs_16 : decode cX6_needs 16 = .ok (.invokevirtual 183, 3) := by decide +kernel
theorem dX6_needs_19 : decode cX6_needs 19 = .ok (.ireturn, 1) := by decide +kernel
set_option maxRecDepth 20000 in
theorem ggX6_users_X1_draw : GoodIn wsX6_users wsX1_draw := goodIn_r _ [8, 9, 10, 11, 12, 7, 13, 14, 15, 16, 17, 18, 19, 20, 21, 22, 23, 24, 25, 26, 27, 52, 53, 54, 55, 56, 57] (by decide +kernel) (by decide +kernel)
set_option maxRecDepth 20000 in
theorem gX6_users_X1_draw : GoodIn wsX6_users (wsV RX6 180 RX1 yX1_draw wsX1_draw) := goodIn_app (goodIn_of _ (by decide +kernel)) ggX6_users_X1_draw
set_option maxRecDepth 20000 in
theorem ggX6_users_X1_thatNeed : GoodIn wsX6_users wsX1_thatNeed := goodIn_r _ [31, 32, 33, 34, 7, 35, 9, 15, 16, 17, 18, 19, 20, 21, 22, 23, 36, 37, 38, 52, 53, 54, 55, 56, 57] (by decide +kernel) (by decide +kernel)
set_option maxRecDepth 20000 in
theorem gX6_users_X1_thatNeed : GoodIn wsX6_users (wsV RX6 188 RX1 yX1_thatNeed wsX1_thatNeed) := goodIn_app (goodIn_of _ (by decide +kernel)) ggX6_users_X1_thatNeed
set_option maxRecDepth 20000 in
theorem ggX6_users_X1_withFile : GoodIn wsX6_users wsX1_withFile := goodIn_r _ [42, 14, 15, 16, 17, 18, 19, 20, 21, 22, 23, 52, 53, 54, 55, 56, 57] (by decide +kernel) (by decide +kernel)
set_option maxRecDepth 20000 in
theorem gX6_users_X1_withFile : GoodIn wsX6_users (wsV RX6 191 RX1 yX1_withFile wsX1_withFile) := goodIn_app (goodIn_of _ (by decide +kernel)) ggX6_users_X1_withFile
theorem dX6_users_0 : decode cX6_users 0 = .ok (.iload_n 1, 1) := by decide +kernel
theorem dX6_users_1 : decode cX6_users 1 = .ok (.bipush 100, 2) := by decide +kernel
theorem dX6_users_3 : decode cX6_users 3 = .ok (.if_icmp .lt 13, 3) := by decide +kernel
theorem dX6_users_6 : decode cX6_users 6 = .ok (.iload_n 1, 1) := by decide +kernel
theorem dX6_users_7 : decode cX6_users 7 = .ok (.bipush 120, 2) := by decide +kernel
theorem dX6_users_9 : decode cX6_users 9 = .ok (.if_icmp .ge 7, 3) := by decide +kernel
theorem dX6_users_12 : decode cX6_users 12 = .ok (.iconst 1, 1) := by decide +kernel
theorem dX6_users_13 : decode cX6_users 13 = .ok (.goto 4, 3) := by decide +kernel
theorem dX6_users_16 : decode cX6_users 16 = .ok (.iconst 0, 1) := by decide +kernel
theorem dX6_users_17 : decode cX6_users 17 = .ok (.istore_n 2, 1) := by decide +kernel
theorem dX6_users_18 : decode cX6_users 18 = .ok (.iload_n 2, 1) := by decide +kernel
theorem dX6_users_19 : decode cX6_users 19 = .ok (.ifCond .ne 23, 3) := by decide +kernel
theorem dX6_users_22 : decode cX6_users 22 = .ok (.iload_n 1, 1) := by decide +kernel
theorem dX6_users_23 : decode cX6_users 23 = .ok (.ifCond .lt 9, 3) := by decide +kernel
theorem dX6_users_26 : decode cX6_users 26 = .ok (.iload_n 1, 1) := by decide +kernel
theorem dX6_users_27 : decode cX6_users 27 = .ok (.bipush 16, 2) := by decide +kernel
theorem dX6_users_29 : decode cX6_users 29 = .ok (.if_icmp .lt 13, 3) := by decide +kernel
theorem dX6_users_32 : decode cX6_users 32 = .ok (.new 68, 3) := by decide +kernel
theorem dX6_users_35 : decode cX6_users 35 = .ok (.dup, 1) := by decide +kernel
theorem dX6_users_36 : decode cX6_users 36 = .ok (.ldc 186, 2) := by decide +kernel
theorem dX6_users_38 : decode cX6_users 38 = .ok (.invokespecial 72, 3) := by decide +kernel
theorem dX6_users_41 : decode cX6_users 41 = .ok (.athrow, 1) := by decide +kernel
theorem dX6_users_42 : decode cX6_users 42 = .ok (.aload_n 0, 1) := by decide +kernel
theorem dX6_users_43 : decode cX6_users 43 = .ok (.getfield 55, 3) := by decide +kernel
theorem dX6_users_46 : decode cX6_users 46 = .ok (.invokevirtual 180, 3) := by decide +kernel
theorem dX6_users_49 : decode cX6_users 49 = .ok (.iload_n 2, 1) := by decide +kernel
theorem dX6_users_50 : decode cX6_users 50 = .ok (.ifCond .ne 14, 3) := by decide +kernel
theorem dX6_users_53 : decode cX6_users 53 = .ok (.aload_n 0, 1) := by decide +kernel
theorem dX6_users_54 : decode cX6_users 54 = .ok (.getfield 55, 3) := by decide +kernel
theorem dX6_users_57 : decode cX6_users 57 = .ok (.iconst 1, 1) := by decide +kernel
theorem dX6_users_58 : decode cX6_users 58 = .ok (.iload_n 1, 1) := by decide +kernel
theorem dX6_users_59 : decode cX6_users 59 = .ok (.ishl, 1) := by decide +kernel
theorem dX6_users_60 : decode cX6_users 60 = .ok (.invokevirtual 188, 3) := by decide +kernel
theorem dX6_users_63 : decode cX6_users 63 = .ok (.ireturn, 1) := by decide +kernel
theorem dX6_users_64 : decode cX6_users 64 = .ok (.aload_n 0, 1) := by decide +kernel
theorem dX6_users_65 : decode cX6_users 65 = .ok (.getfield 55, 3) := by decide +kernel
theorem dX6_users_68 : decode cX6_users 68 = .ok (.iload_n 1, 1) := by decide +kernel
theorem dX6_users_69 : decode cX6_users 69 = .ok (.bipush 100, 2) := by decide +kernel
theorem dX6_users_71 : decode cX6_users 71 = .ok (.isub, 1) := by decide +kernel
theorem dX6_users_72 : decode cX6_users 72 = .ok (.invokevirtual 191, 3) := by decide +kernel
theorem dX6_users_75 : decode cX6_users 75 = .ok (.istore_n 3, 1) := by decide +kernel
theorem dX6_users_76 : decode cX6_users 76 = .ok (.iload_n 3, 1) := by decide +kernel
theorem dX6_users_77 : decode cX6_users 77 = .ok (.aload_n 0, 1) := by decide +kernel
theorem dX6_users_78 : decode cX6_users 78 = .ok (.getfield 55, 3) := by decide +kernel
theorem dX6_users_81 : decode cX6_users 81 = .ok (.iload_n 3, 1) := by decide +kernel
theorem dX6_users_82 : decode cX6_users 82 = .ok (.invokevirtual 188, 3) := by decide +kernel
theorem dX6_users_85 : decode cX6_users 85 = .ok (.ior, 1) := by decide +kernel
theorem dX6_users_86 : decode cX6_users 86 = .ok (.ireturn, 1) := by decide +kernel
set_option maxRecDepth 20000 in
theorem ggX6_ring_X6_refuseOtherTargets : GoodIn wsX6_ring wsX6_refuseOtherTargets := goodIn_ca (goodIn_r _ [5, 6, 7] (by decide +kernel) (by decide +kernel)) (goodIn_sub (fun _ h => List.mem_cons_of_mem _ (List.mem_append_right _ h)) (by decide +kernel))
set_option maxRecDepth 20000 in
theorem gX6_ring_X6_refuseOtherTargets : GoodIn wsX6_ring (va_wsS RX6 91 yX6_refuseOtherTargets wsX6_refuseOtherTargets) := goodIn_app (goodIn_of _ (by decide +kernel)) ggX6_ring_X6_refuseOtherTargets
set_option maxRecDepth 20000 in
theorem ggX6_ring_X1_draw : GoodIn wsX6_ring wsX1_draw := goodIn_r _ [12, 13, 14, 15, 16, 11, 17, 18, 19, 20, 21, 22, 23, 24, 25, 26, 27, 28, 29, 30, 31, 52, 53, 54, 55, 56, 57] (by decide +kernel) (by decide +kernel)
set_option maxRecDepth 20000 in
theorem gX6_ring_X1_draw : GoodIn wsX6_ring (wsV RX6 180 RX1 yX1_draw wsX1_draw) := goodIn_app (goodIn_of _ (by decide +kernel)) ggX6_ring_X1_draw
set_option maxRecDepth 20000 in
theorem ggX6_ring_X1_shortestRing : GoodIn wsX6_ring wsX1_shortestRing := goodIn_r _ [35, 13, 36, 37, 38, 11, 39, 28, 29, 30, 22, 31, 24, 25, 26, 40, 41, 42, 19, 20, 21, 23, 27, 52, 53, 54, 55, 56, 57] (by decide +kernel) (by decide +kernel)
set_option maxRecDepth 20000 in
theorem gX6_ring_X1_shortestRing : GoodIn wsX6_ring (wsV RX6 194 RX1 yX1_shortestRing wsX1_shortestRing) := goodIn_app (goodIn_of _ (by decide +kernel)) ggX6_ring_X1_shortestRing
theorem dX6_ring_0 : decode cX6_ring 0 = .ok (.iload_n 1, 1) := by decide +kernel
theorem dX6_ring_1 : decode cX6_ring 1 = .ok (.invokestatic 91, 3) := by decide +kernel
theorem dX6_ring_4 : decode cX6_ring 4 = .ok (.aload_n 0, 1) := by decide +kernel
theorem dX6_ring_5 : decode cX6_ring 5 = .ok (.getfield 55, 3) := by decide +kernel
theorem dX6_ring_8 : decode cX6_ring 8 = .ok (.invokevirtual 180, 3) := by decide +kernel
theorem dX6_ring_11 : decode cX6_ring 11 = .ok (.aload_n 0, 1) := by decide +kernel
theorem dX6_ring_12 : decode cX6_ring 12 = .ok (.getfield 55, 3) := by decide +kernel
theorem dX6_ring_15 : decode cX6_ring 15 = .ok (.iload_n 1, 1) := by decide +kernel
theorem dX6_ring_16 : decode cX6_ring 16 = .ok (.invokevirtual 194, 3) := by decide +kernel
theorem dX6_ring_19 : decode cX6_ring 19 = .ok (.ireturn, 1) := by decide +kernel
set_option maxRecDepth 20000 in
theorem ggX6_way_X6_refuseOtherTargets : GoodIn wsX6_way wsX6_refuseOtherTargets := goodIn_ca (goodIn_r _ [9, 1, 2] (by decide +kernel) (by decide +kernel)) (goodIn_sub (fun _ h => List.mem_cons_of_mem _ (List.mem_append_left _ (List.mem_append_right _ h))) (by decide +kernel))
set_option maxRecDepth 20000 in
theorem gX6_way_X6_refuseOtherTargets : GoodIn wsX6_way (va_wsS RX6 91 yX6_refuseOtherTargets wsX6_refuseOtherTargets) := goodIn_app (goodIn_of _ (by decide +kernel)) ggX6_way_X6_refuseOtherTargets
set_option maxRecDepth 20000 in
theorem ggX6_way_X1_draw : GoodIn wsX6_way wsX1_draw := goodIn_r _ [14, 15, 16, 17, 18, 13, 19, 20, 21, 22, 23, 24, 25, 26, 27, 28, 29, 30, 31, 32, 33, 58, 59, 60, 61, 62, 63] (by decide +kernel) (by decide +kernel)
set_option maxRecDepth 20000 in
theorem gX6_way_X1_draw : GoodIn wsX6_way (wsV RX6 180 RX1 yX1_draw wsX1_draw) := goodIn_app (goodIn_of _ (by decide +kernel)) ggX6_way_X1_draw
set_option maxRecDepth 20000 in
theorem ggX6_way_X1_onShortestWay : GoodIn wsX6_way wsX1_onShortestWay := goodIn_r _ [37, 15, 38, 39, 40, 13, 41, 30, 31, 32, 24, 33, 26, 27, 28, 42, 43, 44, 21, 22, 23, 25, 29, 45, 46, 47, 48, 58, 59, 60, 61, 62, 63] (by decide +kernel) (by decide +kernel)
set_option maxRecDepth 20000 in
theorem gX6_way_X1_onShortestWay : GoodIn wsX6_way (wsV RX6 201 RX1 yX1_onShortestWay wsX1_onShortestWay) := goodIn_app (goodIn_of _ (by decide +kernel)) ggX6_way_X1_onShortestWay
theorem dX6_way_0 : decode cX6_way 0 = .ok (.iload_n 1, 1) := by decide +kernel
theorem dX6_way_1 : decode cX6_way 1 = .ok (.invokestatic 91, 3) := by decide +kernel
theorem dX6_way_4 : decode cX6_way 4 = .ok (.iload_n 2, 1) := by decide +kernel
theorem dX6_way_5 : decode cX6_way 5 = .ok (.invokestatic 91, 3) := by decide +kernel
theorem dX6_way_8 : decode cX6_way 8 = .ok (.iload_n 3, 1) := by decide +kernel
theorem dX6_way_9 : decode cX6_way 9 = .ok (.ifCond .ge 13, 3) := by decide +kernel
theorem dX6_way_12 : decode cX6_way 12 = .ok (.new 68, 3) := by decide +kernel
theorem dX6_way_15 : decode cX6_way 15 = .ok (.dup, 1) := by decide +kernel
theorem dX6_way_16 : decode cX6_way 16 = .ok (.ldc 197, 2) := by decide +kernel
theorem dX6_way_18 : decode cX6_way 18 = .ok (.invokespecial 72, 3) := by decide +kernel
