theorem dX6_way_21 : decode cX6_way 21 = .ok (.athrow, 1) := by decide +kernel
theorem dX6_way_22 : decode cX6_way 22 = .ok (.iload_n 1, 1) := by decide +kernel
theorem dX6_way_23 : decode cX6_way 23 = .ok (.iload_n 2, 1) := by decide +kernel
theorem dX6_way_24 : decode cX6_way 24 = .ok (.if_icmp .ne 13, 3) := by decide +kernel
theorem dX6_way_27 : decode cX6_way 27 = .ok (.new 79, 3) := by decide +kernel
theorem dX6_way_30 : decode cX6_way 30 = .ok (.dup, 1) := by decide +kernel
theorem dX6_way_31 : decode cX6_way 31 = .ok (.ldc 199, 2) := by decide +kernel
theorem dX6_way_33 : decode cX6_way 33 = .ok (.invokespecial 83, 3) := by decide +kernel
theorem dX6_way_36 : decode cX6_way 36 = .ok (.athrow, 1) := by decide +kernel
theorem dX6_way_37 : decode cX6_way 37 = .ok (.aload_n 0, 1) := by decide +kernel
theorem dX6_way_38 : decode cX6_way 38 = .ok (.getfield 55, 3) := by decide +kernel
theorem dX6_way_41 : decode cX6_way 41 = .ok (.invokevirtual 180, 3) := by decide +kernel
theorem dX6_way_44 : decode cX6_way 44 = .ok (.aload_n 0, 1) := by decide +kernel
theorem dX6_way_45 : decode cX6_way 45 = .ok (.getfield 55, 3) := by decide +kernel
theorem dX6_way_48 : decode cX6_way 48 = .ok (.iload_n 1, 1) := by decide +kernel
theorem dX6_way_49 : decode cX6_way 49 = .ok (.iload_n 2, 1) := by decide +kernel
theorem dX6_way_50 : decode cX6_way 50 = .ok (.iload_n 3, 1) := by decide +kernel
theorem dX6_way_51 : decode cX6_way 51 = .ok (.invokevirtual 201, 3) := by decide +kernel
theorem dX6_way_54 : decode cX6_way 54 = .ok (.ireturn, 1) := by decide +kernel
set_option maxRecDepth 20000 in
theorem ggX6_time_X6_refuseOtherNodes : GoodIn wsX6_time wsX6_refuseOtherNodes := goodIn_ca (goodIn_r _ [8, 9, 10, 11, 12, 7, 13] (by decide +kernel) (by decide +kernel)) (goodIn_sub (fun _ h => List.mem_cons_of_mem _ (List.mem_append_right _ h)) (by decide +kernel))
set_option maxRecDepth 20000 in
theorem gX6_time_X6_refuseOtherNodes : GoodIn wsX6_time (va_wsS RX6 149 yX6_refuseOtherNodes wsX6_refuseOtherNodes) := goodIn_app (goodIn_of _ (by decide +kernel)) ggX6_time_X6_refuseOtherNodes
set_option maxRecDepth 20000 in
theorem ggX6_time_X6_nodeOf : GoodIn wsX6_time wsX6_nodeOf := goodIn_r _ [16] (by decide +kernel) (by decide +kernel)
set_option maxRecDepth 20000 in
theorem gX6_time_X6_nodeOf : GoodIn wsX6_time (va_wsS RX6 153 yX6_nodeOf wsX6_nodeOf) := goodIn_app (goodIn_of _ (by decide +kernel)) ggX6_time_X6_nodeOf
set_option maxRecDepth 20000 in
theorem ggX6_time_X2_start : GoodIn wsX6_time wsX2_start := goodIn_r _ [21, 22, 23, 24, 25, 26, 27, 28, 29, 30, 31, 32, 33, 34, 35, 36, 20, 37, 38, 39, 40, 41, 42, 43, 44, 45, 46, 47, 48, 49, 50, 51, 52, 53, 54, 55, 56, 57, 58, 59, 60, 61, 62, 63, 64, 65, 66, 67, 68, 69, 70, 71, 72, 73, 74, 75, 76, 77, 78, 79, 80, 81, 82, 83, 84, 85, 86, 87, 88, 89, 90, 91, 92, 93, 94, 95, 96, 97, 98, 99, 100, 101, 102, 103, 104, 105, 106, 107, 108, 109, 110, 111, 112, 113, 114, 115, 116, 117, 118, 119, 120, 121, 122, 123, 124, 125, 126, 127, 128, 129, 130, 131, 132, 133, 134, 135, 136, 137, 138, 139, 7, 140, 141, 142, 143, 144, 145, 146, 147, 148, 149, 150, 151, 152, 153, 154, 155, 156, 157, 158, 159, 160, 161, 162, 163, 164, 165, 166, 167, 168, 169, 170, 171, 172, 173, 174, 175, 176, 177, 178, 179, 180, 181, 182, 183, 184, 14, 15, 16, 185, 186, 187, 188, 189, 190, 191, 192, 193, 194, 250, 251, 252, 253, 254, 255, 256, 257, 258, 259, 260, 261, 262, 263, 264, 265, 266, 267, 268, 269, 270] (by decide +kernel) (by decide +kernel)
set_option maxRecDepth 20000 in
theorem gX6_time_X2_start : GoodIn wsX6_time (wsV RX6 156 RX2 yX2_start wsX2_start) := goodIn_app (goodIn_of _ (by decide +kernel)) ggX6_time_X2_start
set_option maxRecDepth 20000 in
theorem ggX6_time_X5_endOf : GoodIn wsX6_time wsX5_endOf := goodIn_r _ [199, 200, 201, 202, 203, 198, 204, 205, 26, 27, 28, 29, 30, 31, 32, 33, 206, 207, 208, 209, 210, 211, 39, 40, 41, 212, 43, 44, 45, 213, 214, 215, 216, 217, 218, 219, 220, 183, 7, 184, 14, 15, 16, 221, 222, 223, 224, 225, 226, 227, 228, 229, 230, 231, 232, 233, 234, 235, 236, 237, 238, 239, 240, 271, 272, 260, 261, 262, 263, 250, 251, 252, 253, 254, 255, 256, 257, 258, 259] (by decide +kernel) (by decide +kernel)
set_option maxRecDepth 20000 in
theorem gX6_time_X5_endOf : GoodIn wsX6_time (wsV RX6 207 RX5 yX5_endOf wsX5_endOf) := goodIn_app (goodIn_of _ (by decide +kernel)) ggX6_time_X5_endOf
theorem dX6_time_0 : decode cX6_time 0 = .ok (.iload_n 1, 1) := by decide +kernel
theorem dX6_time_1 : decode cX6_time 1 = .ok (.iload_n 2, 1) := by decide +kernel
theorem dX6_time_2 : decode cX6_time 2 = .ok (.invokestatic 149, 3) := by decide +kernel
theorem dX6_time_5 : decode cX6_time 5 = .ok (.iload_n 3, 1) := by decide +kernel
theorem dX6_time_6 : decode cX6_time 6 = .ok (.iconst 1, 1) := by decide +kernel
theorem dX6_time_7 : decode cX6_time 7 = .ok (.if_icmp .lt 8, 3) := by decide +kernel
theorem dX6_time_10 : decode cX6_time 10 = .ok (.iload_n 3, 1) := by decide +kernel
theorem dX6_time_11 : decode cX6_time 11 = .ok (.iconst 3, 1) := by decide +kernel
theorem dX6_time_12 : decode cX6_time 12 = .ok (.if_icmp .le 13, 3) := by decide +kernel
theorem dX6_time_15 : decode cX6_time 15 = .ok (.new 79, 3) := by decide +kernel
theorem dX6_time_18 : decode cX6_time 18 = .ok (.dup, 1) := by decide +kernel
theorem dX6_time_19 : decode cX6_time 19 = .ok (.ldc 205, 2) := by decide +kernel
theorem dX6_time_21 : decode cX6_time 21 = .ok (.invokespecial 83, 3) := by decide +kernel
theorem dX6_time_24 : decode cX6_time 24 = .ok (.athrow, 1) := by decide +kernel
theorem dX6_time_25 : decode cX6_time 25 = .ok (.iload_n 1, 1) := by decide +kernel
theorem dX6_time_26 : decode cX6_time 26 = .ok (.iload_n 2, 1) := by decide +kernel
theorem dX6_time_27 : decode cX6_time 27 = .ok (.invokestatic 153, 3) := by decide +kernel
theorem dX6_time_30 : decode cX6_time 30 = .ok (.istore 4, 2) := by decide +kernel
theorem dX6_time_32 : decode cX6_time 32 = .ok (.aload_n 0, 1) := by decide +kernel
theorem dX6_time_33 : decode cX6_time 33 = .ok (.getfield 47, 3) := by decide +kernel
theorem dX6_time_36 : decode cX6_time 36 = .ok (.iload 4, 2) := by decide +kernel
theorem dX6_time_38 : decode cX6_time 38 = .ok (.invokevirtual 156, 3) := by decide +kernel
theorem dX6_time_41 : decode cX6_time 41 = .ok (.ifCond .ge 7, 3) := by decide +kernel
theorem dX6_time_44 : decode cX6_time 44 = .ok (.iconst (-1), 1) := by decide +kernel
theorem dX6_time_45 : decode cX6_time 45 = .ok (.goto 13, 3) := by decide +kernel
theorem dX6_time_48 : decode cX6_time 48 = .ok (.aload_n 0, 1) := by decide +kernel
theorem dX6_time_49 : decode cX6_time 49 = .ok (.getfield 64, 3) := by decide +kernel
theorem dX6_time_52 : decode cX6_time 52 = .ok (.iload 4, 2) := by decide +kernel
theorem dX6_time_54 : decode cX6_time 54 = .ok (.iload_n 3, 1) := by decide +kernel
theorem dX6_time_55 : decode cX6_time 55 = .ok (.invokevirtual 207, 3) := by decide +kernel
theorem dX6_time_58 : decode cX6_time 58 = .ok (.ireturn, 1) := by decide +kernel
theorem dX6_refuseOtherTargets_0 : decode cX6_refuseOtherTargets 0 = .ok (.iload_n 0, 1) := by decide +kernel
theorem dX6_refuseOtherTargets_1 : decode cX6_refuseOtherTargets 1 = .ok (.ifCond .lt 9, 3) := by decide +kernel
theorem dX6_refuseOtherTargets_4 : decode cX6_refuseOtherTargets 4 = .ok (.iload_n 0, 1) := by decide +kernel
theorem dX6_refuseOtherTargets_5 : decode cX6_refuseOtherTargets 5 = .ok (.bipush 16, 2) := by decide +kernel
theorem dX6_refuseOtherTargets_7 : decode cX6_refuseOtherTargets 7 = .ok (.if_icmp .lt 13, 3) := by decide +kernel
theorem dX6_refuseOtherTargets_10 : decode cX6_refuseOtherTargets 10 = .ok (.new 68, 3) := by decide +kernel
theorem dX6_refuseOtherTargets_13 : decode cX6_refuseOtherTargets 13 = .ok (.dup, 1) := by decide +kernel
theorem dX6_refuseOtherTargets_14 : decode cX6_refuseOtherTargets 14 = .ok (.ldc 210, 2) := by decide +kernel
theorem dX6_refuseOtherTargets_16 : decode cX6_refuseOtherTargets 16 = .ok (.invokespecial 72, 3) := by decide +kernel
theorem dX6_refuseOtherTargets_19 : decode cX6_refuseOtherTargets 19 = .ok (.athrow, 1) := by decide +kernel
theorem dX6_refuseOtherTargets_20 : decode cX6_refuseOtherTargets 20 = .ok (.return_, 1) := by decide +kernel
set_option maxRecDepth 20000 in
theorem ggX6_refuseOtherNodes_X6_refuseOtherTargets : GoodIn wsX6_refuseOtherNodes wsX6_refuseOtherTargets := goodIn_ca (goodIn_r _ [6, 1, 2] (by decide +kernel) (by decide +kernel)) (goodIn_sub (fun _ h => List.mem_cons_of_mem _ (List.mem_append_right _ h)) (by decide +kernel))
set_option maxRecDepth 20000 in
theorem gX6_refuseOtherNodes_X6_refuseOtherTargets : GoodIn wsX6_refuseOtherNodes (va_wsS RX6 91 yX6_refuseOtherTargets wsX6_refuseOtherTargets) := goodIn_app (goodIn_of _ (by decide +kernel)) ggX6_refuseOtherNodes_X6_refuseOtherTargets
theorem dX6_refuseOtherNodes_0 : decode cX6_refuseOtherNodes 0 = .ok (.iload_n 0, 1) := by decide +kernel
theorem dX6_refuseOtherNodes_1 : decode cX6_refuseOtherNodes 1 = .ok (.invokestatic 91, 3) := by decide +kernel
theorem dX6_refuseOtherNodes_4 : decode cX6_refuseOtherNodes 4 = .ok (.iload_n 1, 1) := by decide +kernel
theorem dX6_refuseOtherNodes_5 : decode cX6_refuseOtherNodes 5 = .ok (.ifCond .lt 8, 3) := by decide +kernel
theorem dX6_refuseOtherNodes_8 : decode cX6_refuseOtherNodes 8 = .ok (.iload_n 1, 1) := by decide +kernel
theorem dX6_refuseOtherNodes_9 : decode cX6_refuseOtherNodes 9 = .ok (.iconst 2, 1) := by decide +kernel
theorem dX6_refuseOtherNodes_10 : decode cX6_refuseOtherNodes 10 = .ok (.if_icmp .lt 13, 3) := by decide +kernel
theorem dX6_refuseOtherNodes_13 : decode cX6_refuseOtherNodes 13 = .ok (.new 68, 3) := by decide +kernel
theorem dX6_refuseOtherNodes_16 : decode cX6_refuseOtherNodes 16 = .ok (.dup, 1) := by decide +kernel
theorem dX6_refuseOtherNodes_17 : decode cX6_refuseOtherNodes 17 = .ok (.ldc 212, 2) := by decide +kernel
theorem dX6_refuseOtherNodes_19 : decode cX6_refuseOtherNodes 19 = .ok (.invokespecial 72, 3) := by decide +kernel
theorem dX6_refuseOtherNodes_22 : decode cX6_refuseOtherNodes 22 = .ok (.athrow, 1) := by decide +kernel
theorem dX6_refuseOtherNodes_23 : decode cX6_refuseOtherNodes 23 = .ok (.return_, 1) := by decide +kernel
theorem dX6_isValue_0 : decode cX6_isValue 0 = .ok (.iload_n 0, 1) := by decide +kernel
theorem dX6_isValue_1 : decode cX6_isValue 1 = .ok (.ifCond .lt 14, 3) := by decide +kernel
theorem dX6_isValue_4 : decode cX6_isValue 4 = .ok (.iload_n 0, 1) := by decide +kernel
theorem dX6_isValue_5 : decode cX6_isValue 5 = .ok (.sipush 1000, 3) := by decide +kernel
theorem dX6_isValue_8 : decode cX6_isValue 8 = .ok (.if_icmp .ge 7, 3) := by decide +kernel
theorem dX6_isValue_11 : decode cX6_isValue 11 = .ok (.iconst 1, 1) := by decide +kernel
theorem dX6_isValue_12 : decode cX6_isValue 12 = .ok (.goto 4, 3) := by decide +kernel
theorem dX6_isValue_15 : decode cX6_isValue 15 = .ok (.iconst 0, 1) := by decide +kernel
theorem dX6_isValue_16 : decode cX6_isValue 16 = .ok (.ireturn, 1) := by decide +kernel
theorem dX6_howManyOf_0 : decode cX6_howManyOf 0 = .ok (.iload_n 0, 1) := by decide +kernel
theorem dX6_howManyOf_1 : decode cX6_howManyOf 1 = .ok (.ifCond .ne 6, 3) := by decide +kernel
theorem dX6_howManyOf_4 : decode cX6_howManyOf 4 = .ok (.bipush 20, 2) := by decide +kernel
theorem dX6_howManyOf_6 : decode cX6_howManyOf 6 = .ok (.ireturn, 1) := by decide +kernel
theorem dX6_howManyOf_7 : decode cX6_howManyOf 7 = .ok (.iload_n 0, 1) := by decide +kernel
theorem dX6_howManyOf_8 : decode cX6_howManyOf 8 = .ok (.iconst 1, 1) := by decide +kernel
theorem dX6_howManyOf_9 : decode cX6_howManyOf 9 = .ok (.if_icmp .ne 7, 3) := by decide +kernel
theorem dX6_howManyOf_12 : decode cX6_howManyOf 12 = .ok (.iconst 4, 1) := by decide +kernel
theorem dX6_howManyOf_13 : decode cX6_howManyOf 13 = .ok (.goto 5, 3) := by decide +kernel
theorem dX6_howManyOf_16 : decode cX6_howManyOf 16 = .ok (.bipush 16, 2) := by decide +kernel
theorem dX6_howManyOf_18 : decode cX6_howManyOf 18 = .ok (.ireturn, 1) := by decide +kernel
theorem dX6_nodeOf_0 : decode cX6_nodeOf 0 = .ok (.iload_n 0, 1) := by decide +kernel
theorem dX6_nodeOf_1 : decode cX6_nodeOf 1 = .ok (.iconst 2, 1) := by decide +kernel
theorem dX6_nodeOf_2 : decode cX6_nodeOf 2 = .ok (.imul, 1) := by decide +kernel
theorem dX6_nodeOf_3 : decode cX6_nodeOf 3 = .ok (.iload_n 1, 1) := by decide +kernel
theorem dX6_nodeOf_4 : decode cX6_nodeOf 4 = .ok (.iadd, 1) := by decide +kernel
theorem dX6_nodeOf_5 : decode cX6_nodeOf 5 = .ok (.ireturn, 1) := by decide +kernel
set_option maxRecDepth 20000 in
theorem ggX6_nodeRead_X6_nodeOf : GoodIn wsX6_nodeRead wsX6_nodeOf := goodIn_r _ [4] (by decide +kernel) (by decide +kernel)
set_option maxRecDepth 20000 in
theorem gX6_nodeRead_X6_nodeOf : GoodIn wsX6_nodeRead (va_wsS RX6 153 yX6_nodeOf wsX6_nodeOf) := goodIn_app (goodIn_of _ (by decide +kernel)) ggX6_nodeRead_X6_nodeOf
theorem dX6_nodeRead_0 : decode cX6_nodeRead 0 = .ok (.iload_n 0, 1) := by decide +kernel
theorem dX6_nodeRead_1 : decode cX6_nodeRead 1 = .ok (.iconst 2, 1) := by decide +kernel
theorem dX6_nodeRead_2 : decode cX6_nodeRead 2 = .ok (.irem, 1) := by decide +kernel
theorem dX6_nodeRead_3 : decode cX6_nodeRead 3 = .ok (.istore_n 3, 1) := by decide +kernel
theorem dX6_nodeRead_4 : decode cX6_nodeRead 4 = .ok (.iload_n 2, 1) := by decide +kernel
theorem dX6_nodeRead_5 : decode cX6_nodeRead 5 = .ok (.iload_n 1, 1) := by decide +kernel
theorem dX6_nodeRead_6 : decode cX6_nodeRead 6 = .ok (.iconst 3, 1) := by decide +kernel
theorem dX6_nodeRead_7 : decode cX6_nodeRead 7 = .ok (.if_icmp .ne 9, 3) := by decide +kernel
theorem dX6_nodeRead_10 : decode cX6_nodeRead 10 = .ok (.iconst 1, 1) := by decide +kernel
theorem dX6_nodeRead_11 : decode cX6_nodeRead 11 = .ok (.iload_n 3, 1) := by decide +kernel
theorem dX6_nodeRead_12 : decode cX6_nodeRead 12 = .ok (.isub, 1) := by decide +kernel
theorem dX6_nodeRead_13 : decode cX6_nodeRead 13 = .ok (.goto 4, 3) := by decide +kernel
theorem dX6_nodeRead_16 : decode cX6_nodeRead 16 = .ok (.iload_n 3, 1) := by decide +kernel
theorem dX6_nodeRead_17 : decode cX6_nodeRead 17 = .ok (.invokestatic 153, 3) := by decide +kernel
theorem dX6_nodeRead_20 : decode cX6_nodeRead 20 = .ok (.ireturn, 1) := by decide +kernel
set_option maxRecDepth 20000 in
theorem ggX6_contentOf_X4_get : GoodIn wsX6_contentOf wsX4_get := goodIn_r _ [5, 6, 7, 8, 9, 10, 11, 12, 13] (by decide +kernel) (by decide +kernel)
set_option maxRecDepth 20000 in
theorem gX6_contentOf_X4_get : GoodIn wsX6_contentOf (wsV RX6 101 RX4 yX4_get wsX4_get) := goodIn_app (goodIn_of _ (by decide +kernel)) ggX6_contentOf_X4_get
theorem dX6_contentOf_0 : decode cX6_contentOf 0 = .ok (.aload_n 0, 1) := by decide +kernel
theorem dX6_contentOf_1 : decode cX6_contentOf 1 = .ok (.iload_n 1, 1) := by decide +kernel
theorem dX6_contentOf_2 : decode cX6_contentOf 2 = .ok (.iconst 5, 1) := by decide +kernel
theorem dX6_contentOf_3 : decode cX6_contentOf 3 = .ok (.idiv, 1) := by decide +kernel
theorem dX6_contentOf_4 : decode cX6_contentOf 4 = .ok (.iload_n 1, 1) := by decide +kernel
theorem dX6_contentOf_5 : decode cX6_contentOf 5 = .ok (.iconst 5, 1) := by decide +kernel
theorem dX6_contentOf_6 : decode cX6_contentOf 6 = .ok (.irem, 1) := by decide +kernel
theorem dX6_contentOf_7 : decode cX6_contentOf 7 = .ok (.invokevirtual 101, 3) := by decide +kernel
theorem dX6_contentOf_10 : decode cX6_contentOf 10 = .ok (.ireturn, 1) := by decide +kernel
set_option maxRecDepth 20000 in
theorem ggX6_clearAll_X4_howManyFilled : GoodIn wsX6_clearAll wsX4_howManyFilled := goodIn_r _ [5, 6, 7, 8, 9, 4, 10, 11, 12, 13, 18, 19, 20, 21] (by decide +kernel) (by decide +kernel)
set_option maxRecDepth 20000 in
theorem gX6_clearAll_X4_howManyFilled : GoodIn wsX6_clearAll (wsV RX6 170 RX4 yX4_howManyFilled wsX4_howManyFilled) := goodIn_app (goodIn_of _ (by decide +kernel)) ggX6_clearAll_X4_howManyFilled
set_option maxRecDepth 20000 in
theorem ggX6_clearAll_X4_clear : GoodIn wsX6_clearAll wsX4_clear := goodIn_r _ [17, 6, 11, 12, 13, 18, 19, 20, 21] (by decide +kernel) (by decide +kernel)
set_option maxRecDepth 20000 in
theorem gX6_clearAll_X4_clear : GoodIn wsX6_clearAll (wsV RX6 105 RX4 yX4_clear wsX4_clear) := goodIn_app (goodIn_of _ (by decide +kernel)) ggX6_clearAll_X4_clear
theorem dX6_clearAll_0 : decode cX6_clearAll 0 = .ok (.aload_n 0, 1) := by decide +kernel
theorem dX6_clearAll_1 : decode cX6_clearAll 1 = .ok (.invokevirtual 170, 3) := by decide +kernel
theorem dX6_clearAll_4 : decode cX6_clearAll 4 = .ok (.istore_n 1, 1) := by decide +kernel
theorem dX6_clearAll_5 : decode cX6_clearAll 5 = .ok (.iconst 0, 1) := by decide +kernel
theorem dX6_clearAll_6 : decode cX6_clearAll 6 = .ok (.istore_n 2, 1) := by decide +kernel
theorem dX6_clearAll_7 : decode cX6_clearAll 7 = .ok (.iload_n 2, 1) := by decide +kernel
theorem dX6_clearAll_8 : decode cX6_clearAll 8 = .ok (.aload_n 0, 1) := by decide +kernel
theorem dX6_clearAll_9 : decode cX6_clearAll 9 = .ok (.getfield 214, 3) := by decide +kernel
theorem dX6_clearAll_12 : decode cX6_clearAll 12 = .ok (.if_icmp .ge 14, 3) := by decide +kernel
theorem dX6_clearAll_15 : decode cX6_clearAll 15 = .ok (.aload_n 0, 1) := by decide +kernel
theorem dX6_clearAll_16 : decode cX6_clearAll 16 = .ok (.iload_n 2, 1) := by decide +kernel
theorem dX6_clearAll_17 : decode cX6_clearAll 17 = .ok (.invokevirtual 105, 3) := by decide +kernel
theorem dX6_clearAll_20 : decode cX6_clearAll 20 = .ok (.iinc 2 1, 3) := by decide +kernel
theorem dX6_clearAll_23 : decode cX6_clearAll 23 = .ok (.goto (-16), 3) := by decide +kernel
theorem dX6_clearAll_26 : decode cX6_clearAll 26 = .ok (.iload_n 1, 1) := by decide +kernel
theorem dX6_clearAll_27 : decode cX6_clearAll 27 = .ok (.ireturn, 1) := by decide +kernel
theorem dX7_init_0 : decode cX7_init 0 = .ok (.aload_n 0, 1) := by decide +kernel
theorem dX7_init_1 : decode cX7_init 1 = .ok (.invokespecial 1, 3) := by decide +kernel
theorem dX7_init_4 : decode cX7_init 4 = .ok (.aload_n 0, 1) := by decide +kernel
theorem dX7_init_5 : decode cX7_init 5 = .ok (.bipush 20, 2) := by decide +kernel
theorem dX7_init_7 : decode cX7_init 7 = .ok (.newarray .int, 2) := by decide +kernel
theorem dX7_init_9 : decode cX7_init 9 = .ok (.putfield 7, 3) := by decide +kernel
theorem dX7_init_12 : decode cX7_init 12 = .ok (.aload_n 0, 1) := by decide +kernel
theorem dX7_init_13 : decode cX7_init 13 = .ok (.bipush 16, 2) := by decide +kernel
theorem dX7_init_15 : decode cX7_init 15 = .ok (.newarray .int, 2) := by decide +kernel
theorem dX7_init_17 : decode cX7_init 17 = .ok (.putfield 13, 3) := by decide +kernel
theorem dX7_init_20 : decode cX7_init 20 = .ok (.aload_n 0, 1) := by decide +kernel
theorem dX7_init_21 : decode cX7_init 21 = .ok (.bipush 16, 2) := by decide +kernel
theorem dX7_init_23 : decode cX7_init 23 = .ok (.newarray .int, 2) := by decide +kernel
theorem dX7_init_25 : decode cX7_init 25 = .ok (.putfield 16, 3) := by decide +kernel
theorem dX7_init_28 : decode cX7_init 28 = .ok (.aload_n 0, 1) := by decide +kernel
theorem dX7_init_29 : decode cX7_init 29 = .ok (.bipush 16, 2) := by decide +kernel
theorem dX7_init_31 : decode cX7_init 31 = .ok (.newarray .int, 2) := by decide +kernel
theorem dX7_init_33 : decode cX7_init 33 = .ok (.putfield 19, 3) := by decide +kernel
theorem dX7_init_36 : decode cX7_init 36 = .ok (.aload_n 0, 1) := by decide +kernel
theorem dX7_init_37 : decode cX7_init 37 = .ok (.bipush 16, 2) := by decide +kernel
theorem dX7_init_39 : decode cX7_init 39 = .ok (.newarray .int, 2) := by decide +kernel
theorem dX7_init_41 : decode cX7_init 41 = .ok (.putfield 22, 3) := by decide +kernel
theorem dX7_init_44 : decode cX7_init 44 = .ok (.aload_n 0, 1) := by decide +kernel
theorem dX7_init_45 : decode cX7_init 45 = .ok (.bipush 16, 2) := by decide +kernel
theorem dX7_init_47 : decode cX7_init 47 = .ok (.newarray .int, 2) := by decide +kernel
theorem dX7_init_49 : decode cX7_init 49 = .ok (.putfield 25, 3) := by decide +kernel
theorem dX7_init_52 : decode cX7_init 52 = .ok (.aload_n 0, 1) := by decide +kernel
theorem dX7_init_53 : decode cX7_init 53 = .ok (.bipush 64, 2) := by decide +kernel
theorem dX7_init_55 : decode cX7_init 55 = .ok (.newarray .int, 2) := by decide +kernel
theorem dX7_init_57 : decode cX7_init 57 = .ok (.putfield 28, 3) := by decide +kernel
theorem dX7_init_60 : decode cX7_init 60 = .ok (.aload_n 0, 1) := by decide +kernel
theorem dX7_init_61 : decode cX7_init 61 = .ok (.bipush 64, 2) := by decide +kernel
theorem dX7_init_63 : decode cX7_init 63 = .ok (.newarray .int, 2) := by decide +kernel
theorem dX7_init_65 : decode cX7_init 65 = .ok (.putfield 31, 3) := by decide +kernel
theorem dX7_init_68 : decode cX7_init 68 = .ok (.aload_n 0, 1) := by decide +kernel
theorem dX7_init_69 : decode cX7_init 69 = .ok (.bipush 16, 2) := by decide +kernel
theorem dX7_init_71 : decode cX7_init 71 = .ok (.newarray .int, 2) := by decide +kernel
theorem dX7_init_73 : decode cX7_init 73 = .ok (.putfield 34, 3) := by decide +kernel
theorem dX7_init_76 : decode cX7_init 76 = .ok (.aload_n 0, 1) := by decide +kernel
theorem dX7_init_77 : decode cX7_init 77 = .ok (.iconst 3, 1) := by decide +kernel
theorem dX7_init_78 : decode cX7_init 78 = .ok (.newarray .boolean, 2) := by decide +kernel
theorem dX7_init_80 : decode cX7_init 80 = .ok (.putfield 37, 3) := by decide +kernel
theorem dX7_init_83 : decode cX7_init 83 = .ok (.aload_n 0, 1) := by decide +kernel
theorem dX7_init_84 : decode cX7_init 84 = .ok (.iconst 3, 1) := by decide +kernel
theorem dX7_init_85 : decode cX7_init 85 = .ok (.newarray .boolean, 2) := by decide +kernel
theorem dX7_init_87 : decode cX7_init 87 = .ok (.putfield 41, 3) := by decide +kernel
theorem dX7_init_90 : decode cX7_init 90 = .ok (.aload_n 0, 1) := by decide +kernel
theorem dX7_init_91 : decode cX7_init 91 = .ok (.bipush 32, 2) := by decide +kernel
theorem dX7_init_93 : decode cX7_init 93 = .ok (.newarray .boolean, 2) := by decide +kernel
theorem dX7_init_95 : decode cX7_init 95 = .ok (.putfield 44, 3) := by decide +kernel
theorem dX7_init_98 : decode cX7_init 98 = .ok (.aload_n 0, 1) := by decide +kernel
theorem dX7_init_99 : decode cX7_init 99 = .ok (.bipush 32, 2) := by decide +kernel
theorem dX7_init_101 : decode cX7_init 101 = .ok (.newarray .long, 2) := by decide +kernel
theorem dX7_init_103 : decode cX7_init 103 = .ok (.putfield 47, 3) := by decide +kernel
theorem dX7_init_106 : decode cX7_init 106 = .ok (.aload_n 0, 1) := by decide +kernel
theorem dX7_init_107 : decode cX7_init 107 = .ok (.bipush 32, 2) := by decide +kernel
theorem dX7_init_109 : decode cX7_init 109 = .ok (.newarray .int, 2) := by decide +kernel
theorem dX7_init_111 : decode cX7_init 111 = .ok (.putfield 51, 3) := by decide +kernel
theorem dX7_init_114 : decode cX7_init 114 = .ok (.aload_n 0, 1) := by decide +kernel
theorem dX7_init_115 : decode cX7_init 115 = .ok (.bipush 32, 2) := by decide +kernel
theorem dX7_init_117 : decode cX7_init 117 = .ok (.newarray .int, 2) := by decide +kernel
theorem dX7_init_119 : decode cX7_init 119 = .ok (.putfield 54, 3) := by decide +kernel
theorem dX7_init_122 : decode cX7_init 122 = .ok (.aload_n 0, 1) := by decide +kernel
theorem dX7_init_123 : decode cX7_init 123 = .ok (.sipush 160, 3) := by decide +kernel
theorem dX7_init_126 : decode cX7_init 126 = .ok (.newarray .int, 2) := by decide +kernel
theorem dX7_init_128 : decode cX7_init 128 = .ok (.putfield 57, 3) := by decide +kernel
theorem dX7_init_131 : decode cX7_init 131 = .ok (.aload_n 0, 1) := by decide +kernel
theorem dX7_init_132 : decode cX7_init 132 = .ok (.sipush 160, 3) := by decide +kernel
theorem dX7_init_135 : decode cX7_init 135 = .ok (.newarray .int, 2) := by decide +kernel
theorem dX7_init_137 : decode cX7_init 137 = .ok (.putfield 60, 3) := by decide +kernel
theorem dX7_init_140 : decode cX7_init 140 = .ok (.aload_n 0, 1) := by decide +kernel
theorem dX7_init_141 : decode cX7_init 141 = .ok (.sipush 160, 3) := by decide +kernel
theorem dX7_init_144 : decode cX7_init 144 = .ok (.newarray .long, 2) := by decide +kernel
theorem dX7_init_146 : decode cX7_init 146 = .ok (.putfield 63, 3) := by decide +kernel
theorem dX7_init_149 : decode cX7_init 149 = .ok (.aload_n 0, 1) := by decide +kernel
theorem dX7_init_150 : decode cX7_init 150 = .ok (.bipush 32, 2) := by decide +kernel
theorem dX7_init_152 : decode cX7_init 152 = .ok (.newarray .int, 2) := by decide +kernel
theorem dX7_init_154 : decode cX7_init 154 = .ok (.putfield 66, 3) := by decide +kernel
theorem dX7_init_157 : decode cX7_init 157 = .ok (.aload_n 0, 1) := by decide +kernel
theorem dX7_init_158 : decode cX7_init 158 = .ok (.bipush 32, 2) := by decide +kernel
theorem dX7_init_160 : decode cX7_init 160 = .ok (.newarray .int, 2) := by decide +kernel
theorem dX7_init_162 : decode cX7_init 162 = .ok (.putfield 69, 3) := by decide +kernel
theorem dX7_init_165 : decode cX7_init 165 = .ok (.aload_n 0, 1) := by decide +kernel
theorem dX7_init_166 : decode cX7_init 166 = .ok (.bipush 32, 2) := by decide +kernel
theorem dX7_init_168 : decode cX7_init 168 = .ok (.newarray .boolean, 2) := by decide +kernel
theorem dX7_init_170 : decode cX7_init 170 = .ok (.putfield 72, 3) := by decide +kernel
theorem dX7_init_173 : decode cX7_init 173 = .ok (.aload_n 0, 1) := by decide +kernel
theorem dX7_init_174 : decode cX7_init 174 = .ok (.sipush 606, 3) := by decide +kernel
theorem dX7_init_177 : decode cX7_init 177 = .ok (.newarray .long, 2) := by decide +kernel
theorem dX7_init_179 : decode cX7_init 179 = .ok (.putfield 75, 3) := by decide +kernel
theorem dX7_init_182 : decode cX7_init 182 = .ok (.aload_n 0, 1) := by decide +kernel
theorem dX7_init_183 : decode cX7_init 183 = .ok (.bipush 101, 2) := by decide +kernel
theorem dX7_init_185 : decode cX7_init 185 = .ok (.newarray .int, 2) := by decide +kernel
theorem dX7_init_187 : decode cX7_init 187 = .ok (.putfield 78, 3) := by decide +kernel
theorem dX7_init_190 : decode cX7_init 190 = .ok (.aload_n 0, 1) := by decide +kernel
theorem dX7_init_191 : decode cX7_init 191 = .ok (.bipush 101, 2) := by decide +kernel
theorem dX7_init_193 : decode cX7_init 193 = .ok (.newarray .int, 2) := by decide +kernel
theorem dX7_init_195 : decode cX7_init 195 = .ok (.putfield 81, 3) := by decide +kernel
theorem dX7_init_198 : decode cX7_init 198 = .ok (.aload_n 0, 1) := by decide +kernel
theorem dX7_init_199 : decode cX7_init 199 = .ok (.bipush 32, 2) := by decide +kernel
theorem dX7_init_201 : decode cX7_init 201 = .ok (.newarray .int, 2) := by decide +kernel
theorem dX7_init_203 : decode cX7_init 203 = .ok (.putfield 84, 3) := by decide +kernel
theorem dX7_init_206 : decode cX7_init 206 = .ok (.aload_n 0, 1) := by decide +kernel
theorem dX7_init_207 : decode cX7_init 207 = .ok (.bipush 32, 2) := by decide +kernel
theorem dX7_init_209 : decode cX7_init 209 = .ok (.newarray .int, 2) := by decide +kernel
theorem dX7_init_211 : decode cX7_init 211 = .ok (.putfield 87, 3) := by decide +kernel
theorem dX7_init_214 : decode cX7_init 214 = .ok (.aload_n 0, 1) := by decide +kernel
theorem dX7_init_215 : decode cX7_init 215 = .ok (.bipush 32, 2) := by decide +kernel
theorem dX7_init_217 : decode cX7_init 217 = .ok (.newarray .int, 2) := by decide +kernel
theorem dX7_init_219 : decode cX7_init 219 = .ok (.putfield 90, 3) := by decide +kernel
theorem dX7_init_222 : decode cX7_init 222 = .ok (.aload_n 0, 1) := by decide +kernel
theorem dX7_init_223 : decode cX7_init 223 = .ok (.bipush 32, 2) := by decide +kernel
theorem dX7_init_225 : decode cX7_init 225 = .ok (.newarray .int, 2) := by decide +kernel
theorem dX7_init_227 : decode cX7_init 227 = .ok (.putfield 93, 3) := by decide +kernel
theorem dX7_init_230 : decode cX7_init 230 = .ok (.aload_n 0, 1) := by decide +kernel
theorem dX7_init_231 : decode cX7_init 231 = .ok (.iconst 4, 1) := by decide +kernel
theorem dX7_init_232 : decode cX7_init 232 = .ok (.newarray .int, 2) := by decide +kernel
theorem dX7_init_234 : decode cX7_init 234 = .ok (.putfield 96, 3) := by decide +kernel
theorem dX7_init_237 : decode cX7_init 237 = .ok (.aload_n 0, 1) := by decide +kernel
theorem dX7_init_238 : decode cX7_init 238 = .ok (.bipush 40, 2) := by decide +kernel
theorem dX7_init_240 : decode cX7_init 240 = .ok (.newarray .int, 2) := by decide +kernel
theorem dX7_init_242 : decode cX7_init 242 = .ok (.putfield 99, 3) := by decide +kernel
theorem dX7_init_245 : decode cX7_init 245 = .ok (.aload_n 0, 1) := by decide +kernel
theorem dX7_init_246 : decode cX7_init 246 = .ok (.bipush 32, 2) := by decide +kernel
theorem dX7_init_248 : decode cX7_init 248 = .ok (.newarray .boolean, 2) := by decide +kernel
theorem dX7_init_250 : decode cX7_init 250 = .ok (.putfield 102, 3) := by decide +kernel
theorem dX7_init_253 : decode cX7_init 253 = .ok (.aload_n 0, 1) := by decide +kernel
theorem dX7_init_254 : decode cX7_init 254 = .ok (.bipush 32, 2) := by decide +kernel
theorem dX7_init_256 : decode cX7_init 256 = .ok (.newarray .int, 2) := by decide +kernel
theorem dX7_init_258 : decode cX7_init 258 = .ok (.putfield 105, 3) := by decide +kernel
theorem dX7_init_261 : decode cX7_init 261 = .ok (.aload_n 0, 1) := by decide +kernel
theorem dX7_init_262 : decode cX7_init 262 = .ok (.bipush 32, 2) := by decide +kernel
theorem dX7_init_264 : decode cX7_init 264 = .ok (.newarray .int, 2) := by decide +kernel
theorem dX7_init_266 : decode cX7_init 266 = .ok (.putfield 108, 3) := by decide +kernel
theorem dX7_init_269 : decode cX7_init 269 = .ok (.aload_n 0, 1) := by decide +kernel
theorem dX7_init_270 : decode cX7_init 270 = .ok (.sipush 160, 3) := by decide +kernel
theorem dX7_init_273 : decode cX7_init 273 = .ok (.newarray .int, 2) := by decide +kernel
theorem dX7_init_275 : decode cX7_init 275 = .ok (.putfield 111, 3) := by decide +kernel
theorem dX7_init_278 : decode cX7_init 278 = .ok (.aload_n 0, 1) := by decide +kernel
theorem dX7_init_279 : decode cX7_init 279 = .ok (.sipush 160, 3) := by decide +kernel
theorem dX7_init_282 : decode cX7_init 282 = .ok (.newarray .int, 2) := by decide +kernel
theorem dX7_init_284 : decode cX7_init 284 = .ok (.putfield 114, 3) := by decide +kernel
theorem dX7_init_287 : decode cX7_init 287 = .ok (.aload_n 0, 1) := by decide +kernel
theorem dX7_init_288 : decode cX7_init 288 = .ok (.sipush 160, 3) := by decide +kernel
theorem dX7_init_291 : decode cX7_init 291 = .ok (.newarray .long, 2) := by decide +kernel
theorem dX7_init_293 : decode cX7_init 293 = .ok (.putfield 117, 3) := by decide +kernel
theorem dX7_init_296 : decode cX7_init 296 = .ok (.aload_n 0, 1) := by decide +kernel
theorem dX7_init_297 : decode cX7_init 297 = .ok (.bipush 6, 2) := by decide +kernel
theorem dX7_init_299 : decode cX7_init 299 = .ok (.newarray .long, 2) := by decide +kernel
theorem dX7_init_301 : decode cX7_init 301 = .ok (.putfield 120, 3) := by decide +kernel
theorem dX7_init_304 : decode cX7_init 304 = .ok (.aload_n 0, 1) := by decide +kernel
theorem dX7_init_305 : decode cX7_init 305 = .ok (.bipush 32, 2) := by decide +kernel
theorem dX7_init_307 : decode cX7_init 307 = .ok (.newarray .int, 2) := by decide +kernel
theorem dX7_init_309 : decode cX7_init 309 = .ok (.putfield 123, 3) := by decide +kernel
theorem dX7_init_312 : decode cX7_init 312 = .ok (.aload_n 0, 1) := by decide +kernel
theorem dX7_init_313 : decode cX7_init 313 = .ok (.bipush 32, 2) := by decide +kernel
theorem dX7_init_315 : decode cX7_init 315 = .ok (.newarray .int, 2) := by decide +kernel
theorem dX7_init_317 : decode cX7_init 317 = .ok (.putfield 126, 3) := by decide +kernel
theorem dX7_init_320 : decode cX7_init 320 = .ok (.aload_n 0, 1) := by decide +kernel
theorem dX7_init_321 : decode cX7_init 321 = .ok (.bipush 32, 2) := by decide +kernel
theorem dX7_init_323 : decode cX7_init 323 = .ok (.newarray .int, 2) := by decide +kernel
theorem dX7_init_325 : decode cX7_init 325 = .ok (.putfield 129, 3) := by decide +kernel
theorem dX7_init_328 : decode cX7_init 328 = .ok (.iconst 0, 1) := by decide +kernel
theorem dX7_init_329 : decode cX7_init 329 = .ok (.istore_n 1, 1) := by decide +kernel
theorem dX7_init_330 : decode cX7_init 330 = .ok (.iload_n 1, 1) := by decide +kernel
theorem dX7_init_331 : decode cX7_init 331 = .ok (.bipush 20, 2) := by decide +kernel
theorem dX7_init_333 : decode cX7_init 333 = .ok (.if_icmp .ge 16, 3) := by decide +kernel
theorem dX7_init_336 : decode cX7_init 336 = .ok (.aload_n 0, 1) := by decide +kernel
theorem dX7_init_337 : decode cX7_init 337 = .ok (.getfield 7, 3) := by decide +kernel
theorem dX7_init_340 : decode cX7_init 340 = .ok (.iload_n 1, 1) := by decide +kernel
theorem dX7_init_341 : decode cX7_init 341 = .ok (.iconst (-1), 1) := by decide +kernel
theorem dX7_init_342 : decode cX7_init 342 = .ok (.iastore, 1) := by decide +kernel
theorem dX7_init_343 : decode cX7_init 343 = .ok (.iinc 1 1, 3) := by decide +kernel
theorem dX7_init_346 : decode cX7_init 346 = .ok (.goto (-16), 3) := by decide +kernel
theorem dX7_init_349 : decode cX7_init 349 = .ok (.iconst 0, 1) := by decide +kernel
theorem dX7_init_350 : decode cX7_init 350 = .ok (.istore_n 1, 1) := by decide +kernel
theorem dX7_init_351 : decode cX7_init 351 = .ok (.iload_n 1, 1) := by decide +kernel
theorem dX7_init_352 : decode cX7_init 352 = .ok (.bipush 16, 2) := by decide +kernel
theorem dX7_init_354 : decode cX7_init 354 = .ok (.if_icmp .ge 16, 3) := by decide +kernel
theorem dX7_init_357 : decode cX7_init 357 = .ok (.aload_n 0, 1) := by decide +kernel
theorem dX7_init_358 : decode cX7_init 358 = .ok (.getfield 13, 3) := by decide +kernel
theorem dX7_init_361 : decode cX7_init 361 = .ok (.iload_n 1, 1) := by decide +kernel
theorem dX7_init_362 : decode cX7_init 362 = .ok (.iconst (-1), 1) := by decide +kernel
theorem dX7_init_363 : decode cX7_init 363 = .ok (.iastore, 1) := by decide +kernel
theorem dX7_init_364 : decode cX7_init 364 = .ok (.iinc 1 1, 3) := by decide +kernel
theorem dX7_init_367 : decode cX7_init 367 = .ok (.goto (-16), 3) := by decide +kernel
theorem dX7_init_370 : decode cX7_init 370 = .ok (.return_, 1) := by decide +kernel
theorem dX7_thrown_0 : decode cX7_thrown 0 = .ok (.aload_n 0, 1) := by decide +kernel
theorem dX7_thrown_1 : decode cX7_thrown 1 = .ok (.getfield 132, 3) := by decide +kernel
theorem dX7_thrown_4 : decode cX7_thrown 4 = .ok (.ireturn, 1) := by decide +kernel
theorem dX7_goes_0 : decode cX7_goes 0 = .ok (.aload_n 0, 1) := by decide +kernel
theorem dX7_goes_1 : decode cX7_goes 1 = .ok (.iload_n 1, 1) := by decide +kernel
theorem dX7_goes_2 : decode cX7_goes 2 = .ok (.putfield 132, 3) := by decide +kernel
theorem dX7_goes_5 : decode cX7_goes 5 = .ok (.iload_n 1, 1) := by decide +kernel
theorem dX7_goes_6 : decode cX7_goes 6 = .ok (.ifCond .ne 7, 3) := by decide +kernel
theorem dX7_goes_9 : decode cX7_goes 9 = .ok (.iconst 1, 1) := by decide +kernel
theorem dX7_goes_10 : decode cX7_goes 10 = .ok (.goto 4, 3) := by decide +kernel
theorem dX7_goes_13 : decode cX7_goes 13 = .ok (.iconst 0, 1) := by decide +kernel
theorem dX7_goes_14 : decode cX7_goes 14 = .ok (.ireturn, 1) := by decide +kernel
theorem dX7_isIn_0 : decode cX7_isIn 0 = .ok (.iload_n 0, 1) := by decide +kernel
theorem dX7_isIn_1 : decode cX7_isIn 1 = .ok (.iload_n 1, 1) := by decide +kernel
theorem dX7_isIn_2 : decode cX7_isIn 2 = .ok (.if_icmp .lt 12, 3) := by decide +kernel
theorem dX7_isIn_5 : decode cX7_isIn 5 = .ok (.iload_n 0, 1) := by decide +kernel
theorem dX7_isIn_6 : decode cX7_isIn 6 = .ok (.iload_n 2, 1) := by decide +kernel
theorem dX7_isIn_7 : decode cX7_isIn 7 = .ok (.if_icmp .gt 7, 3) := by decide +kernel
theorem dX7_isIn_10 : decode cX7_isIn 10 = .ok (.iconst 1, 1) := by decide +kernel
theorem dX7_isIn_11 : decode cX7_isIn 11 = .ok (.goto 4, 3) := by decide +kernel
theorem dX7_isIn_14 : decode cX7_isIn 14 = .ok (.iconst 0, 1) := by decide +kernel
theorem dX7_isIn_15 : decode cX7_isIn 15 = .ok (.ireturn, 1) := by decide +kernel
set_option maxRecDepth 20000 in
theorem ggX7_isTarget_X7_isIn : GoodIn wsX7_isTarget wsX7_isIn := goodIn_r _ [4] (by decide +kernel) (by decide +kernel)
set_option maxRecDepth 20000 in
theorem gX7_isTarget_X7_isIn : GoodIn wsX7_isTarget (va_wsS RX7 136 yX7_isIn wsX7_isIn) := goodIn_app (goodIn_of _ (by decide +kernel)) ggX7_isTarget_X7_isIn
theorem dX7_isTarget_0 : decode cX7_isTarget 0 = .ok (.iload_n 0, 1) := by decide +kernel
theorem dX7_isTarget_1 : decode cX7_isTarget 1 = .ok (.iconst 0, 1) := by decide +kernel
theorem dX7_isTarget_2 : decode cX7_isTarget 2 = .ok (.bipush 15, 2) := by decide +kernel
theorem dX7_isTarget_4 : decode cX7_isTarget 4 = .ok (.invokestatic 136, 3) := by decide +kernel
theorem dX7_isTarget_7 : decode cX7_isTarget 7 = .ok (.ireturn, 1) := by decide +kernel
theorem dX7_has_0 : decode cX7_has 0 = .ok (.iload_n 0, 1) := by decide +kernel
theorem dX7_has_1 : decode cX7_has 1 = .ok (.iload_n 1, 1) := by decide +kernel
theorem dX7_has_2 : decode cX7_has 2 = .ok (.ishr, 1) := by decide +kernel
theorem dX7_has_3 : decode cX7_has 3 = .ok (.iconst 1, 1) := by decide +kernel
theorem dX7_has_4 : decode cX7_has 4 = .ok (.iand, 1) := by decide +kernel
theorem dX7_has_5 : decode cX7_has 5 = .ok (.iconst 1, 1) := by decide +kernel
theorem dX7_has_6 : decode cX7_has 6 = .ok (.if_icmp .ne 7, 3) := by decide +kernel
theorem dX7_has_9 : decode cX7_has 9 = .ok (.iconst 1, 1) := by decide +kernel
theorem dX7_has_10 : decode cX7_has 10 = .ok (.goto 4, 3) := by decide +kernel
theorem dX7_has_13 : decode cX7_has 13 = .ok (.iconst 0, 1) := by decide +kernel
theorem dX7_has_14 : decode cX7_has 14 = .ok (.ireturn, 1) := by decide +kernel
set_option maxRecDepth 20000 in
theorem ggX7_write_X7_isIn : GoodIn wsX7_write wsX7_isIn := goodIn_r _ [5] (by decide +kernel) (by decide +kernel)
set_option maxRecDepth 20000 in
theorem gX7_write_X7_isIn : GoodIn wsX7_write (va_wsS RX7 136 yX7_isIn wsX7_isIn) := goodIn_app (goodIn_of _ (by decide +kernel)) ggX7_write_X7_isIn
set_option maxRecDepth 20000 in
theorem ggX7_write_X7_goes : GoodIn wsX7_write wsX7_goes := goodIn_r _ [9, 10, 11, 12, 13, 14, 15, 16, 17, 18, 19, 20, 21, 22, 23, 24, 25, 26, 27, 28, 29, 30, 31, 32, 33, 34, 35, 36, 37, 38, 39, 40, 41, 42, 43, 44, 45, 46, 47, 48, 49, 50, 51, 52, 53, 54, 55, 56, 57, 58] (by decide +kernel) (by decide +kernel)
set_option maxRecDepth 20000 in
theorem gX7_write_X7_goes : GoodIn wsX7_write (wsV RX7 140 RX7 yX7_goes wsX7_goes) := goodIn_app (goodIn_of _ (by decide +kernel)) ggX7_write_X7_goes
theorem dX7_write_0 : decode cX7_write 0 = .ok (.aload_n 0, 1) := by decide +kernel
theorem dX7_write_1 : decode cX7_write 1 = .ok (.iload_n 1, 1) := by decide +kernel
theorem dX7_write_2 : decode cX7_write 2 = .ok (.iconst 0, 1) := by decide +kernel
theorem dX7_write_3 : decode cX7_write 3 = .ok (.bipush 19, 2) := by decide +kernel
theorem dX7_write_5 : decode cX7_write 5 = .ok (.invokestatic 136, 3) := by decide +kernel
theorem dX7_write_8 : decode cX7_write 8 = .ok (.ifCond .ne 7, 3) := by decide +kernel
theorem dX7_write_11 : decode cX7_write 11 = .ok (.iconst 1, 1) := by decide +kernel
theorem dX7_write_12 : decode cX7_write 12 = .ok (.goto 19, 3) := by decide +kernel
theorem dX7_write_15 : decode cX7_write 15 = .ok (.iload_n 2, 1) := by decide +kernel
theorem dX7_write_16 : decode cX7_write 16 = .ok (.iconst (-1), 1) := by decide +kernel
theorem dX7_write_17 : decode cX7_write 17 = .ok (.sipush 999, 3) := by decide +kernel
theorem dX7_write_20 : decode cX7_write 20 = .ok (.invokestatic 136, 3) := by decide +kernel
theorem dX7_write_23 : decode cX7_write 23 = .ok (.ifCond .eq 7, 3) := by decide +kernel
theorem dX7_write_26 : decode cX7_write 26 = .ok (.iconst 0, 1) := by decide +kernel
theorem dX7_write_27 : decode cX7_write 27 = .ok (.goto 4, 3) := by decide +kernel
theorem dX7_write_30 : decode cX7_write 30 = .ok (.iconst 2, 1) := by decide +kernel
theorem dX7_write_31 : decode cX7_write 31 = .ok (.invokevirtual 140, 3) := by decide +kernel
theorem dX7_write_34 : decode cX7_write 34 = .ok (.ifCond .ne 5, 3) := by decide +kernel
theorem dX7_write_37 : decode cX7_write 37 = .ok (.iconst 0, 1) := by decide +kernel
theorem dX7_write_38 : decode cX7_write 38 = .ok (.ireturn, 1) := by decide +kernel
theorem dX7_write_39 : decode cX7_write 39 = .ok (.aload_n 0, 1) := by decide +kernel
theorem dX7_write_40 : decode cX7_write 40 = .ok (.getfield 7, 3) := by decide +kernel
theorem dX7_write_43 : decode cX7_write 43 = .ok (.iload_n 1, 1) := by decide +kernel
theorem dX7_write_44 : decode cX7_write 44 = .ok (.iaload, 1) := by decide +kernel
theorem dX7_write_45 : decode cX7_write 45 = .ok (.istore_n 3, 1) := by decide +kernel
theorem dX7_write_46 : decode cX7_write 46 = .ok (.aload_n 0, 1) := by decide +kernel
theorem dX7_write_47 : decode cX7_write 47 = .ok (.getfield 7, 3) := by decide +kernel
theorem dX7_write_50 : decode cX7_write 50 = .ok (.iload_n 1, 1) := by decide +kernel
theorem dX7_write_51 : decode cX7_write 51 = .ok (.iload_n 2, 1) := by decide +kernel
theorem dX7_write_52 : decode cX7_write 52 = .ok (.iastore, 1) := by decide +kernel
theorem dX7_write_53 : decode cX7_write 53 = .ok (.iload_n 3, 1) := by decide +kernel
theorem dX7_write_54 : decode cX7_write 54 = .ok (.ireturn, 1) := by decide +kernel
set_option maxRecDepth 20000 in
theorem ggX7_rule_X7_isIn : GoodIn wsX7_rule wsX7_isIn := goodIn_r _ [9] (by decide +kernel) (by decide +kernel)
set_option maxRecDepth 20000 in
theorem gX7_rule_X7_isIn : GoodIn wsX7_rule (va_wsS RX7 136 yX7_isIn wsX7_isIn) := goodIn_app (goodIn_of _ (by decide +kernel)) ggX7_rule_X7_isIn
set_option maxRecDepth 20000 in
theorem ggX7_rule_X7_isTarget : GoodIn wsX7_rule wsX7_isTarget := goodIn_r _ [12, 6, 7, 8, 9] (by decide +kernel) (by decide +kernel)
set_option maxRecDepth 20000 in
theorem gX7_rule_X7_isTarget : GoodIn wsX7_rule (va_wsS RX7 144 yX7_isTarget wsX7_isTarget) := goodIn_app (goodIn_of _ (by decide +kernel)) ggX7_rule_X7_isTarget
set_option maxRecDepth 20000 in
theorem ggX7_rule_X7_goes : GoodIn wsX7_rule wsX7_goes := goodIn_r _ [16, 17, 18, 19, 20, 21, 22, 23, 24, 25, 26, 27, 28, 29, 30, 31, 32, 33, 34, 35, 36, 37, 38, 39, 40, 41, 42, 43, 44, 45, 46, 47, 48, 49, 50, 51, 52, 53, 54, 55, 56, 57, 58, 59, 60, 61, 62, 63, 64, 65] (by decide +kernel) (by decide +kernel)
set_option maxRecDepth 20000 in
theorem gX7_rule_X7_goes : GoodIn wsX7_rule (wsV RX7 140 RX7 yX7_goes wsX7_goes) := goodIn_app (goodIn_of _ (by decide +kernel)) ggX7_rule_X7_goes
theorem dX7_rule_0 : decode cX7_rule 0 = .ok (.iload_n 2, 1) := by decide +kernel
theorem dX7_rule_1 : decode cX7_rule 1 = .ok (.iconst (-1), 1) := by decide +kernel
theorem dX7_rule_2 : decode cX7_rule 2 = .ok (.iconst 4, 1) := by decide +kernel
theorem dX7_rule_3 : decode cX7_rule 3 = .ok (.invokestatic 136, 3) := by decide +kernel
theorem dX7_rule_6 : decode cX7_rule 6 = .ok (.ifCond .eq 41, 3) := by decide +kernel
theorem dX7_rule_9 : decode cX7_rule 9 = .ok (.iload_n 3, 1) := by decide +kernel
theorem dX7_rule_10 : decode cX7_rule 10 = .ok (.iconst 0, 1) := by decide +kernel
theorem dX7_rule_11 : decode cX7_rule 11 = .ok (.sipush 999, 3) := by decide +kernel
theorem dX7_rule_14 : decode cX7_rule 14 = .ok (.invokestatic 136, 3) := by decide +kernel
theorem dX7_rule_17 : decode cX7_rule 17 = .ok (.ifCond .eq 30, 3) := by decide +kernel
theorem dX7_rule_20 : decode cX7_rule 20 = .ok (.iload 4, 2) := by decide +kernel
theorem dX7_rule_22 : decode cX7_rule 22 = .ok (.iconst 0, 1) := by decide +kernel
theorem dX7_rule_23 : decode cX7_rule 23 = .ok (.sipush 999, 3) := by decide +kernel
theorem dX7_rule_26 : decode cX7_rule 26 = .ok (.invokestatic 136, 3) := by decide +kernel
theorem dX7_rule_29 : decode cX7_rule 29 = .ok (.ifCond .eq 18, 3) := by decide +kernel
theorem dX7_rule_32 : decode cX7_rule 32 = .ok (.iload 5, 2) := by decide +kernel
theorem dX7_rule_34 : decode cX7_rule 34 = .ok (.iconst 1, 1) := by decide +kernel
theorem dX7_rule_35 : decode cX7_rule 35 = .ok (.bipush 20, 2) := by decide +kernel
theorem dX7_rule_37 : decode cX7_rule 37 = .ok (.invokestatic 136, 3) := by decide +kernel
theorem dX7_rule_40 : decode cX7_rule 40 = .ok (.ifCond .eq 7, 3) := by decide +kernel
theorem dX7_rule_43 : decode cX7_rule 43 = .ok (.iconst 1, 1) := by decide +kernel
theorem dX7_rule_44 : decode cX7_rule 44 = .ok (.goto 4, 3) := by decide +kernel
theorem dX7_rule_47 : decode cX7_rule 47 = .ok (.iconst 0, 1) := by decide +kernel
theorem dX7_rule_48 : decode cX7_rule 48 = .ok (.istore 6, 2) := by decide +kernel
theorem dX7_rule_50 : decode cX7_rule 50 = .ok (.aload_n 0, 1) := by decide +kernel
theorem dX7_rule_51 : decode cX7_rule 51 = .ok (.iload_n 1, 1) := by decide +kernel
theorem dX7_rule_52 : decode cX7_rule 52 = .ok (.invokestatic 144, 3) := by decide +kernel
theorem dX7_rule_55 : decode cX7_rule 55 = .ok (.ifCond .ne 7, 3) := by decide +kernel
theorem dX7_rule_58 : decode cX7_rule 58 = .ok (.iconst 1, 1) := by decide +kernel
theorem dX7_rule_59 : decode cX7_rule 59 = .ok (.goto 13, 3) := by decide +kernel
theorem dX7_rule_62 : decode cX7_rule 62 = .ok (.iload 6, 2) := by decide +kernel
theorem dX7_rule_64 : decode cX7_rule 64 = .ok (.ifCond .eq 7, 3) := by decide +kernel
theorem dX7_rule_67 : decode cX7_rule 67 = .ok (.iconst 0, 1) := by decide +kernel
theorem dX7_rule_68 : decode cX7_rule 68 = .ok (.goto 4, 3) := by decide +kernel
theorem dX7_rule_71 : decode cX7_rule 71 = .ok (.iconst 2, 1) := by decide +kernel
theorem dX7_rule_72 : decode cX7_rule 72 = .ok (.invokevirtual 140, 3) := by decide +kernel
theorem dX7_rule_75 : decode cX7_rule 75 = .ok (.ifCond .ne 5, 3) := by decide +kernel
theorem dX7_rule_78 : decode cX7_rule 78 = .ok (.iconst 0, 1) := by decide +kernel
theorem dX7_rule_79 : decode cX7_rule 79 = .ok (.ireturn, 1) := by decide +kernel
theorem dX7_rule_80 : decode cX7_rule 80 = .ok (.aload_n 0, 1) := by decide +kernel
theorem dX7_rule_81 : decode cX7_rule 81 = .ok (.getfield 13, 3) := by decide +kernel
theorem dX7_rule_84 : decode cX7_rule 84 = .ok (.iload_n 1, 1) := by decide +kernel
theorem dX7_rule_85 : decode cX7_rule 85 = .ok (.iaload, 1) := by decide +kernel
theorem dX7_rule_86 : decode cX7_rule 86 = .ok (.iconst (-1), 1) := by decide +kernel
theorem dX7_rule_87 : decode cX7_rule 87 = .ok (.if_icmp .eq 7, 3) := by decide +kernel
theorem dX7_rule_90 : decode cX7_rule 90 = .ok (.iconst 1, 1) := by decide +kernel
theorem dX7_rule_91 : decode cX7_rule 91 = .ok (.goto 4, 3) := by decide +kernel
theorem dX7_rule_94 : decode cX7_rule 94 = .ok (.iconst 0, 1) := by decide +kernel
theorem dX7_rule_95 : decode cX7_rule 95 = .ok (.istore 7, 2) := by decide +kernel
theorem dX7_rule_97 : decode cX7_rule 97 = .ok (.aload_n 0, 1) := by decide +kernel
theorem dX7_rule_98 : decode cX7_rule 98 = .ok (.getfield 13, 3) := by decide +kernel
theorem dX7_rule_101 : decode cX7_rule 101 = .ok (.iload_n 1, 1) := by decide +kernel
theorem dX7_rule_102 : decode cX7_rule 102 = .ok (.iload_n 2, 1) := by decide +kernel
theorem dX7_rule_103 : decode cX7_rule 103 = .ok (.iastore, 1) := by decide +kernel
theorem dX7_rule_104 : decode cX7_rule 104 = .ok (.aload_n 0, 1) := by decide +kernel
theorem dX7_rule_105 : decode cX7_rule 105 = .ok (.getfield 16, 3) := by decide +kernel
theorem dX7_rule_108 : decode cX7_rule 108 = .ok (.iload_n 1, 1) := by decide +kernel
theorem dX7_rule_109 : decode cX7_rule 109 = .ok (.iload_n 3, 1) := by decide +kernel
theorem dX7_rule_110 : decode cX7_rule 110 = .ok (.iastore, 1) := by decide +kernel
theorem dX7_rule_111 : decode cX7_rule 111 = .ok (.aload_n 0, 1) := by decide +kernel
theorem dX7_rule_112 : decode cX7_rule 112 = .ok (.getfield 19, 3) := by decide +kernel
theorem dX7_rule_115 : decode cX7_rule 115 = .ok (.iload_n 1, 1) := by decide +kernel
theorem dX7_rule_116 : decode cX7_rule 116 = .ok (.iload 4, 2) := by decide +kernel
theorem dX7_rule_118 : decode cX7_rule 118 = .ok (.iastore, 1) := by decide +kernel
theorem dX7_rule_119 : decode cX7_rule 119 = .ok (.aload_n 0, 1) := by decide +kernel
theorem dX7_rule_120 : decode cX7_rule 120 = .ok (.getfield 22, 3) := by decide +kernel
theorem dX7_rule_123 : decode cX7_rule 123 = .ok (.iload_n 1, 1) := by decide +kernel
theorem dX7_rule_124 : decode cX7_rule 124 = .ok (.iload 5, 2) := by decide +kernel
theorem dX7_rule_126 : decode cX7_rule 126 = .ok (.iastore, 1) := by decide +kernel
theorem dX7_rule_127 : decode cX7_rule 127 = .ok (.aload_n 0, 1) := by decide +kernel
theorem dX7_rule_128 : decode cX7_rule 128 = .ok (.getfield 25, 3) := by decide +kernel
theorem dX7_rule_131 : decode cX7_rule 131 = .ok (.iload_n 1, 1) := by decide +kernel
theorem dX7_rule_132 : decode cX7_rule 132 = .ok (.iconst 0, 1) := by decide +kernel
theorem dX7_rule_133 : decode cX7_rule 133 = .ok (.iastore, 1) := by decide +kernel
theorem dX7_rule_134 : decode cX7_rule 134 = .ok (.iload 7, 2) := by decide +kernel
theorem dX7_rule_136 : decode cX7_rule 136 = .ok (.ireturn, 1) := by decide +kernel
set_option maxRecDepth 20000 in
theorem ggX7_input_X7_isIn : GoodIn wsX7_input wsX7_isIn := goodIn_r _ [8] (by decide +kernel) (by decide +kernel)
set_option maxRecDepth 20000 in
theorem gX7_input_X7_isIn : GoodIn wsX7_input (va_wsS RX7 136 yX7_isIn wsX7_isIn) := goodIn_app (goodIn_of _ (by decide +kernel)) ggX7_input_X7_isIn
set_option maxRecDepth 20000 in
theorem ggX7_input_X7_isTarget : GoodIn wsX7_input wsX7_isTarget := goodIn_r _ [11, 5, 6, 7, 8] (by decide +kernel) (by decide +kernel)
set_option maxRecDepth 20000 in
theorem gX7_input_X7_isTarget : GoodIn wsX7_input (va_wsS RX7 144 yX7_isTarget wsX7_isTarget) := goodIn_app (goodIn_of _ (by decide +kernel)) ggX7_input_X7_isTarget
set_option maxRecDepth 20000 in
theorem ggX7_input_X7_goes : GoodIn wsX7_input wsX7_goes := goodIn_r _ [15, 16, 17, 18, 19, 20, 21, 22, 23, 24, 25, 26, 27, 28, 29, 30, 31, 32, 33, 34, 35, 36, 37, 38, 39, 40, 41, 42, 43, 44, 45, 46, 47, 48, 49, 50, 51, 52, 53, 54, 55, 56, 57, 58, 59, 60, 61, 62, 63, 64] (by decide +kernel) (by decide +kernel)
set_option maxRecDepth 20000 in
theorem gX7_input_X7_goes : GoodIn wsX7_input (wsV RX7 140 RX7 yX7_goes wsX7_goes) := goodIn_app (goodIn_of _ (by decide +kernel)) ggX7_input_X7_goes
theorem dX7_input_0 : decode cX7_input 0 = .ok (.iload_n 2, 1) := by decide +kernel
theorem dX7_input_1 : decode cX7_input 1 = .ok (.iconst 0, 1) := by decide +kernel
theorem dX7_input_2 : decode cX7_input 2 = .ok (.iconst 3, 1) := by decide +kernel
theorem dX7_input_3 : decode cX7_input 3 = .ok (.invokestatic 136, 3) := by decide +kernel
theorem dX7_input_6 : decode cX7_input 6 = .ok (.istore 4, 2) := by decide +kernel
theorem dX7_input_8 : decode cX7_input 8 = .ok (.iload 4, 2) := by decide +kernel
theorem dX7_input_10 : decode cX7_input 10 = .ok (.ifCond .eq 31, 3) := by decide +kernel
theorem dX7_input_13 : decode cX7_input 13 = .ok (.iload_n 3, 1) := by decide +kernel
theorem dX7_input_14 : decode cX7_input 14 = .ok (.iconst 0, 1) := by decide +kernel
theorem dX7_input_15 : decode cX7_input 15 = .ok (.iload_n 2, 1) := by decide +kernel
theorem dX7_input_16 : decode cX7_input 16 = .ok (.ifCond .ne 8, 3) := by decide +kernel
theorem dX7_input_19 : decode cX7_input 19 = .ok (.bipush 19, 2) := by decide +kernel
theorem dX7_input_21 : decode cX7_input 21 = .ok (.goto 14, 3) := by decide +kernel
theorem dX7_input_24 : decode cX7_input 24 = .ok (.iload_n 2, 1) := by decide +kernel
theorem dX7_input_25 : decode cX7_input 25 = .ok (.iconst 1, 1) := by decide +kernel
theorem dX7_input_26 : decode cX7_input 26 = .ok (.if_icmp .ne 7, 3) := by decide +kernel
theorem dX7_input_29 : decode cX7_input 29 = .ok (.iconst 3, 1) := by decide +kernel
theorem dX7_input_30 : decode cX7_input 30 = .ok (.goto 5, 3) := by decide +kernel
theorem dX7_input_33 : decode cX7_input 33 = .ok (.bipush 15, 2) := by decide +kernel
theorem dX7_input_35 : decode cX7_input 35 = .ok (.invokestatic 136, 3) := by decide +kernel
theorem dX7_input_38 : decode cX7_input 38 = .ok (.ifCond .eq 7, 3) := by decide +kernel
theorem dX7_input_41 : decode cX7_input 41 = .ok (.iconst 1, 1) := by decide +kernel
theorem dX7_input_42 : decode cX7_input 42 = .ok (.goto 4, 3) := by decide +kernel
theorem dX7_input_45 : decode cX7_input 45 = .ok (.iconst 0, 1) := by decide +kernel
theorem dX7_input_46 : decode cX7_input 46 = .ok (.istore 5, 2) := by decide +kernel
theorem dX7_input_48 : decode cX7_input 48 = .ok (.aload_n 0, 1) := by decide +kernel
theorem dX7_input_49 : decode cX7_input 49 = .ok (.iload_n 1, 1) := by decide +kernel
theorem dX7_input_50 : decode cX7_input 50 = .ok (.invokestatic 144, 3) := by decide +kernel
theorem dX7_input_53 : decode cX7_input 53 = .ok (.ifCond .eq 8, 3) := by decide +kernel
theorem dX7_input_56 : decode cX7_input 56 = .ok (.iload 5, 2) := by decide +kernel
theorem dX7_input_58 : decode cX7_input 58 = .ok (.ifCond .ne 7, 3) := by decide +kernel
theorem dX7_input_61 : decode cX7_input 61 = .ok (.iconst 1, 1) := by decide +kernel
theorem dX7_input_62 : decode cX7_input 62 = .ok (.goto 37, 3) := by decide +kernel
theorem dX7_input_65 : decode cX7_input 65 = .ok (.iload 4, 2) := by decide +kernel
theorem dX7_input_67 : decode cX7_input 67 = .ok (.ifCond .ne 7, 3) := by decide +kernel
theorem dX7_input_70 : decode cX7_input 70 = .ok (.iconst 2, 1) := by decide +kernel
theorem dX7_input_71 : decode cX7_input 71 = .ok (.goto 28, 3) := by decide +kernel
theorem dX7_input_74 : decode cX7_input 74 = .ok (.aload_n 0, 1) := by decide +kernel
theorem dX7_input_75 : decode cX7_input 75 = .ok (.getfield 13, 3) := by decide +kernel
theorem dX7_input_78 : decode cX7_input 78 = .ok (.iload_n 1, 1) := by decide +kernel
theorem dX7_input_79 : decode cX7_input 79 = .ok (.iaload, 1) := by decide +kernel
theorem dX7_input_80 : decode cX7_input 80 = .ok (.iconst (-1), 1) := by decide +kernel
theorem dX7_input_81 : decode cX7_input 81 = .ok (.if_icmp .eq 13, 3) := by decide +kernel
theorem dX7_input_84 : decode cX7_input 84 = .ok (.aload_n 0, 1) := by decide +kernel
theorem dX7_input_85 : decode cX7_input 85 = .ok (.getfield 25, 3) := by decide +kernel
theorem dX7_input_88 : decode cX7_input 88 = .ok (.iload_n 1, 1) := by decide +kernel
theorem dX7_input_89 : decode cX7_input 89 = .ok (.iaload, 1) := by decide +kernel
theorem dX7_input_90 : decode cX7_input 90 = .ok (.iconst 4, 1) := by decide +kernel
theorem dX7_input_91 : decode cX7_input 91 = .ok (.if_icmp .ne 7, 3) := by decide +kernel
theorem dX7_input_94 : decode cX7_input 94 = .ok (.iconst 3, 1) := by decide +kernel
theorem dX7_input_95 : decode cX7_input 95 = .ok (.goto 4, 3) := by decide +kernel
theorem dX7_input_98 : decode cX7_input 98 = .ok (.iconst 0, 1) := by decide +kernel
theorem dX7_input_99 : decode cX7_input 99 = .ok (.invokevirtual 140, 3) := by decide +kernel
theorem dX7_input_102 : decode cX7_input 102 = .ok (.ifCond .ne 5, 3) := by decide +kernel
theorem dX7_input_105 : decode cX7_input 105 = .ok (.iconst 0, 1) := by decide +kernel
theorem dX7_input_106 : decode cX7_input 106 = .ok (.ireturn, 1) := by decide +kernel
theorem dX7_input_107 : decode cX7_input 107 = .ok (.aload_n 0, 1) := by decide +kernel
theorem dX7_input_108 : decode cX7_input 108 = .ok (.getfield 28, 3) := by decide +kernel
theorem dX7_input_111 : decode cX7_input 111 = .ok (.iconst 4, 1) := by decide +kernel
theorem dX7_input_112 : decode cX7_input 112 = .ok (.iload_n 1, 1) := by decide +kernel
theorem dX7_input_113 : decode cX7_input 113 = .ok (.imul, 1) := by decide +kernel
theorem dX7_input_114 : decode cX7_input 114 = .ok (.aload_n 0, 1) := by decide +kernel
theorem dX7_input_115 : decode cX7_input 115 = .ok (.getfield 25, 3) := by decide +kernel
theorem dX7_input_118 : decode cX7_input 118 = .ok (.iload_n 1, 1) := by decide +kernel
theorem dX7_input_119 : decode cX7_input 119 = .ok (.iaload, 1) := by decide +kernel
theorem dX7_input_120 : decode cX7_input 120 = .ok (.iadd, 1) := by decide +kernel
theorem dX7_input_121 : decode cX7_input 121 = .ok (.iload_n 2, 1) := by decide +kernel
theorem dX7_input_122 : decode cX7_input 122 = .ok (.iastore, 1) := by decide +kernel
theorem dX7_input_123 : decode cX7_input 123 = .ok (.aload_n 0, 1) := by decide +kernel
theorem dX7_input_124 : decode cX7_input 124 = .ok (.getfield 31, 3) := by decide +kernel
theorem dX7_input_127 : decode cX7_input 127 = .ok (.iconst 4, 1) := by decide +kernel
theorem dX7_input_128 : decode cX7_input 128 = .ok (.iload_n 1, 1) := by decide +kernel
theorem dX7_input_129 : decode cX7_input 129 = .ok (.imul, 1) := by decide +kernel
theorem dX7_input_130 : decode cX7_input 130 = .ok (.aload_n 0, 1) := by decide +kernel
theorem dX7_input_131 : decode cX7_input 131 = .ok (.getfield 25, 3) := by decide +kernel
theorem dX7_input_134 : decode cX7_input 134 = .ok (.iload_n 1, 1) := by decide +kernel
theorem dX7_input_135 : decode cX7_input 135 = .ok (.iaload, 1) := by decide +kernel
theorem dX7_input_136 : decode cX7_input 136 = .ok (.iadd, 1) := by decide +kernel
theorem dX7_input_137 : decode cX7_input 137 = .ok (.iload_n 3, 1) := by decide +kernel
theorem dX7_input_138 : decode cX7_input 138 = .ok (.iastore, 1) := by decide +kernel
theorem dX7_input_139 : decode cX7_input 139 = .ok (.aload_n 0, 1) := by decide +kernel
theorem dX7_input_140 : decode cX7_input 140 = .ok (.getfield 25, 3) := by decide +kernel
theorem dX7_input_143 : decode cX7_input 143 = .ok (.iload_n 1, 1) := by decide +kernel
theorem dX7_input_144 : decode cX7_input 144 = .ok (.dup2, 1) := by decide +kernel
theorem dX7_input_145 : decode cX7_input 145 = .ok (.iaload, 1) := by decide +kernel
theorem dX7_input_146 : decode cX7_input 146 = .ok (.iconst 1, 1) := by decide +kernel
theorem dX7_input_147 : decode cX7_input 147 = .ok (.iadd, 1) := by decide +kernel
theorem dX7_input_148 : decode cX7_input 148 = .ok (.iastore, 1) := by decide +kernel
theorem dX7_input_149 : decode cX7_input 149 = .ok (.aload_n 0, 1) := by decide +kernel
theorem dX7_input_150 : decode cX7_input 150 = .ok (.getfield 25, 3) := by decide +kernel
theorem dX7_input_153 : decode cX7_input 153 = .ok (.iload_n 1, 1) := by decide +kernel
theorem dX7_input_154 : decode cX7_input 154 = .ok (.iaload, 1) := by decide +kernel
theorem dX7_input_155 : decode cX7_input 155 = .ok (.ireturn, 1) := by decide +kernel
set_option maxRecDepth 20000 in
theorem ggX7_fails_X7_isTarget : GoodIn wsX7_fails wsX7_isTarget := goodIn_r _ [5, 6, 7, 4, 8] (by decide +kernel) (by decide +kernel)
set_option maxRecDepth 20000 in
theorem gX7_fails_X7_isTarget : GoodIn wsX7_fails (va_wsS RX7 144 yX7_isTarget wsX7_isTarget) := goodIn_app (goodIn_of _ (by decide +kernel)) ggX7_fails_X7_isTarget
set_option maxRecDepth 20000 in
theorem ggX7_fails_X7_isIn : GoodIn wsX7_fails wsX7_isIn := goodIn_r _ [8] (by decide +kernel) (by decide +kernel)
set_option maxRecDepth 20000 in
theorem gX7_fails_X7_isIn : GoodIn wsX7_fails (va_wsS RX7 136 yX7_isIn wsX7_isIn) := goodIn_app (goodIn_of _ (by decide +kernel)) ggX7_fails_X7_isIn
set_option maxRecDepth 20000 in
theorem ggX7_fails_X7_goes : GoodIn wsX7_fails wsX7_goes := goodIn_r _ [12, 13, 14, 15, 16, 17, 18, 19, 20, 21, 22, 23, 24, 25, 26, 27, 28, 29, 30, 31, 32, 33, 34, 35, 36, 37, 38, 39, 40, 41, 42, 43, 44, 45, 46, 47, 48, 49, 50, 51, 52, 53, 54, 55, 56, 57, 58, 59, 60, 61] (by decide +kernel) (by decide +kernel)
set_option maxRecDepth 20000 in
theorem gX7_fails_X7_goes : GoodIn wsX7_fails (wsV RX7 140 RX7 yX7_goes wsX7_goes) := goodIn_app (goodIn_of _ (by decide +kernel)) ggX7_fails_X7_goes
theorem dX7_fails_0 : decode cX7_fails 0 = .ok (.aload_n 0, 1) := by decide +kernel
theorem dX7_fails_1 : decode cX7_fails 1 = .ok (.iload_n 1, 1) := by decide +kernel
theorem dX7_fails_2 : decode cX7_fails 2 = .ok (.invokestatic 144, 3) := by decide +kernel
theorem dX7_fails_5 : decode cX7_fails 5 = .ok (.ifCond .ne 7, 3) := by decide +kernel
theorem dX7_fails_8 : decode cX7_fails 8 = .ok (.iconst 1, 1) := by decide +kernel
theorem dX7_fails_9 : decode cX7_fails 9 = .ok (.goto 18, 3) := by decide +kernel
theorem dX7_fails_12 : decode cX7_fails 12 = .ok (.iload_n 2, 1) := by decide +kernel
theorem dX7_fails_13 : decode cX7_fails 13 = .ok (.iconst 0, 1) := by decide +kernel
theorem dX7_fails_14 : decode cX7_fails 14 = .ok (.bipush 20, 2) := by decide +kernel
theorem dX7_fails_16 : decode cX7_fails 16 = .ok (.invokestatic 136, 3) := by decide +kernel
theorem dX7_fails_19 : decode cX7_fails 19 = .ok (.ifCond .eq 7, 3) := by decide +kernel
theorem dX7_fails_22 : decode cX7_fails 22 = .ok (.iconst 0, 1) := by decide +kernel
theorem dX7_fails_23 : decode cX7_fails 23 = .ok (.goto 4, 3) := by decide +kernel
theorem dX7_fails_26 : decode cX7_fails 26 = .ok (.iconst 2, 1) := by decide +kernel
theorem dX7_fails_27 : decode cX7_fails 27 = .ok (.invokevirtual 140, 3) := by decide +kernel
theorem dX7_fails_30 : decode cX7_fails 30 = .ok (.ifCond .ne 5, 3) := by decide +kernel
theorem dX7_fails_33 : decode cX7_fails 33 = .ok (.iconst 0, 1) := by decide +kernel
theorem dX7_fails_34 : decode cX7_fails 34 = .ok (.ireturn, 1) := by decide +kernel
theorem dX7_fails_35 : decode cX7_fails 35 = .ok (.aload_n 0, 1) := by decide +kernel
theorem dX7_fails_36 : decode cX7_fails 36 = .ok (.getfield 34, 3) := by decide +kernel
theorem dX7_fails_39 : decode cX7_fails 39 = .ok (.iload_n 1, 1) := by decide +kernel
theorem dX7_fails_40 : decode cX7_fails 40 = .ok (.iaload, 1) := by decide +kernel
theorem dX7_fails_41 : decode cX7_fails 41 = .ok (.istore_n 3, 1) := by decide +kernel
theorem dX7_fails_42 : decode cX7_fails 42 = .ok (.aload_n 0, 1) := by decide +kernel
theorem dX7_fails_43 : decode cX7_fails 43 = .ok (.getfield 34, 3) := by decide +kernel
theorem dX7_fails_46 : decode cX7_fails 46 = .ok (.iload_n 1, 1) := by decide +kernel
theorem dX7_fails_47 : decode cX7_fails 47 = .ok (.iload_n 2, 1) := by decide +kernel
theorem dX7_fails_48 : decode cX7_fails 48 = .ok (.iastore, 1) := by decide +kernel
theorem dX7_fails_49 : decode cX7_fails 49 = .ok (.iload_n 3, 1) := by decide +kernel
theorem dX7_fails_50 : decode cX7_fails 50 = .ok (.ireturn, 1) := by decide +kernel
set_option maxRecDepth 20000 in
theorem ggX7_poison_X7_isIn : GoodIn wsX7_poison wsX7_isIn := goodIn_r _ [6] (by decide +kernel) (by decide +kernel)
set_option maxRecDepth 20000 in
theorem gX7_poison_X7_isIn : GoodIn wsX7_poison (va_wsS RX7 136 yX7_isIn wsX7_isIn) := goodIn_app (goodIn_of _ (by decide +kernel)) ggX7_poison_X7_isIn
set_option maxRecDepth 20000 in
theorem ggX7_poison_X7_goes : GoodIn wsX7_poison wsX7_goes := goodIn_r _ [10, 11, 12, 13, 14, 15, 16, 17, 18, 19, 20, 21, 22, 23, 24, 25, 26, 27, 28, 29, 30, 31, 32, 33, 34, 35, 36, 37, 38, 39, 40, 41, 42, 43, 44, 45, 46, 47, 48, 49, 50, 51, 52, 53, 54, 55, 56, 57, 58, 59] (by decide +kernel) (by decide +kernel)
set_option maxRecDepth 20000 in
theorem gX7_poison_X7_goes : GoodIn wsX7_poison (wsV RX7 140 RX7 yX7_goes wsX7_goes) := goodIn_app (goodIn_of _ (by decide +kernel)) ggX7_poison_X7_goes
theorem dX7_poison_0 : decode cX7_poison 0 = .ok (.aload_n 0, 1) := by decide +kernel
theorem dX7_poison_1 : decode cX7_poison 1 = .ok (.iload_n 1, 1) := by decide +kernel
theorem dX7_poison_2 : decode cX7_poison 2 = .ok (.iconst 0, 1) := by decide +kernel
theorem dX7_poison_3 : decode cX7_poison 3 = .ok (.iconst 2, 1) := by decide +kernel
theorem dX7_poison_4 : decode cX7_poison 4 = .ok (.invokestatic 136, 3) := by decide +kernel
theorem dX7_poison_7 : decode cX7_poison 7 = .ok (.ifCond .eq 7, 3) := by decide +kernel
theorem dX7_poison_10 : decode cX7_poison 10 = .ok (.iconst 0, 1) := by decide +kernel
theorem dX7_poison_11 : decode cX7_poison 11 = .ok (.goto 4, 3) := by decide +kernel
theorem dX7_poison_14 : decode cX7_poison 14 = .ok (.iconst 1, 1) := by decide +kernel
theorem dX7_poison_15 : decode cX7_poison 15 = .ok (.invokevirtual 140, 3) := by decide +kernel
theorem dX7_poison_18 : decode cX7_poison 18 = .ok (.ifCond .ne 5, 3) := by decide +kernel
theorem dX7_poison_21 : decode cX7_poison 21 = .ok (.iconst 0, 1) := by decide +kernel
theorem dX7_poison_22 : decode cX7_poison 22 = .ok (.ireturn, 1) := by decide +kernel
theorem dX7_poison_23 : decode cX7_poison 23 = .ok (.aload_n 0, 1) := by decide +kernel
theorem dX7_poison_24 : decode cX7_poison 24 = .ok (.getfield 41, 3) := by decide +kernel
theorem dX7_poison_27 : decode cX7_poison 27 = .ok (.iload_n 1, 1) := by decide +kernel
theorem dX7_poison_28 : decode cX7_poison 28 = .ok (.baload, 1) := by decide +kernel
theorem dX7_poison_29 : decode cX7_poison 29 = .ok (.istore_n 3, 1) := by decide +kernel
theorem dX7_poison_30 : decode cX7_poison 30 = .ok (.aload_n 0, 1) := by decide +kernel
theorem dX7_poison_31 : decode cX7_poison 31 = .ok (.getfield 37, 3) := by decide +kernel
theorem dX7_poison_34 : decode cX7_poison 34 = .ok (.iload_n 1, 1) := by decide +kernel
theorem dX7_poison_35 : decode cX7_poison 35 = .ok (.iload_n 2, 1) := by decide +kernel
theorem dX7_poison_36 : decode cX7_poison 36 = .ok (.bastore, 1) := by decide +kernel
theorem dX7_poison_37 : decode cX7_poison 37 = .ok (.aload_n 0, 1) := by decide +kernel
theorem dX7_poison_38 : decode cX7_poison 38 = .ok (.getfield 41, 3) := by decide +kernel
theorem dX7_poison_41 : decode cX7_poison 41 = .ok (.iload_n 1, 1) := by decide +kernel
theorem dX7_poison_42 : decode cX7_poison 42 = .ok (.iconst 0, 1) := by decide +kernel
theorem dX7_poison_43 : decode cX7_poison 43 = .ok (.bastore, 1) := by decide +kernel
theorem dX7_poison_44 : decode cX7_poison 44 = .ok (.iload_n 3, 1) := by decide +kernel
theorem dX7_poison_45 : decode cX7_poison 45 = .ok (.ireturn, 1) := by decide +kernel
theorem dX7_checks_0 : decode cX7_checks 0 = .ok (.aload_n 0, 1) := by decide +kernel
theorem dX7_checks_1 : decode cX7_checks 1 = .ok (.iconst 0, 1) := by decide +kernel
theorem dX7_checks_2 : decode cX7_checks 2 = .ok (.putfield 132, 3) := by decide +kernel
theorem dX7_checks_5 : decode cX7_checks 5 = .ok (.aload_n 0, 1) := by decide +kernel
theorem dX7_checks_6 : decode cX7_checks 6 = .ok (.getfield 147, 3) := by decide +kernel
theorem dX7_checks_9 : decode cX7_checks 9 = .ok (.istore_n 2, 1) := by decide +kernel
theorem dX7_checks_10 : decode cX7_checks 10 = .ok (.aload_n 0, 1) := by decide +kernel
theorem dX7_checks_11 : decode cX7_checks 11 = .ok (.iload_n 1, 1) := by decide +kernel
theorem dX7_checks_12 : decode cX7_checks 12 = .ok (.putfield 147, 3) := by decide +kernel
theorem dX7_checks_15 : decode cX7_checks 15 = .ok (.iload_n 2, 1) := by decide +kernel
theorem dX7_checks_16 : decode cX7_checks 16 = .ok (.ireturn, 1) := by decide +kernel
set_option maxRecDepth 20000 in
theorem ggX7_vanish_X7_isIn : GoodIn wsX7_vanish wsX7_isIn := goodIn_r _ [5] (by decide +kernel) (by decide +kernel)
set_option maxRecDepth 20000 in
theorem gX7_vanish_X7_isIn : GoodIn wsX7_vanish (va_wsS RX7 136 yX7_isIn wsX7_isIn) := goodIn_app (goodIn_of _ (by decide +kernel)) ggX7_vanish_X7_isIn
set_option maxRecDepth 20000 in
theorem ggX7_vanish_X7_goes : GoodIn wsX7_vanish wsX7_goes := goodIn_r _ [9, 10, 11, 12, 13, 14, 15, 16, 17, 18, 19, 20, 21, 22, 23, 24, 25, 26, 27, 28, 29, 30, 31, 32, 33, 34, 35, 36, 37, 38, 39, 40, 41, 42, 43, 44, 45, 46, 47, 48, 49, 50, 51, 52, 53, 54, 55, 56, 57, 58] (by decide +kernel) (by decide +kernel)
set_option maxRecDepth 20000 in
theorem gX7_vanish_X7_goes : GoodIn wsX7_vanish (wsV RX7 140 RX7 yX7_goes wsX7_goes) := goodIn_app (goodIn_of _ (by decide +kernel)) ggX7_vanish_X7_goes
theorem dX7_vanish_0 : decode cX7_vanish 0 = .ok (.aload_n 0, 1) := by decide +kernel
theorem dX7_vanish_1 : decode cX7_vanish 1 = .ok (.iload_n 1, 1) := by decide +kernel
theorem dX7_vanish_2 : decode cX7_vanish 2 = .ok (.iconst 0, 1) := by decide +kernel
theorem dX7_vanish_3 : decode cX7_vanish 3 = .ok (.bipush 20, 2) := by decide +kernel
theorem dX7_vanish_5 : decode cX7_vanish 5 = .ok (.invokestatic 136, 3) := by decide +kernel
theorem dX7_vanish_8 : decode cX7_vanish 8 = .ok (.ifCond .eq 7, 3) := by decide +kernel
theorem dX7_vanish_11 : decode cX7_vanish 11 = .ok (.iconst 0, 1) := by decide +kernel
theorem dX7_vanish_12 : decode cX7_vanish 12 = .ok (.goto 4, 3) := by decide +kernel
theorem dX7_vanish_15 : decode cX7_vanish 15 = .ok (.iconst 1, 1) := by decide +kernel
theorem dX7_vanish_16 : decode cX7_vanish 16 = .ok (.invokevirtual 140, 3) := by decide +kernel
theorem dX7_vanish_19 : decode cX7_vanish 19 = .ok (.ifCond .ne 5, 3) := by decide +kernel
theorem dX7_vanish_22 : decode cX7_vanish 22 = .ok (.iconst 0, 1) := by decide +kernel
theorem dX7_vanish_23 : decode cX7_vanish 23 = .ok (.ireturn, 1) := by decide +kernel
theorem dX7_vanish_24 : decode cX7_vanish 24 = .ok (.aload_n 0, 1) := by decide +kernel
theorem dX7_vanish_25 : decode cX7_vanish 25 = .ok (.getfield 151, 3) := by decide +kernel
theorem dX7_vanish_28 : decode cX7_vanish 28 = .ok (.istore_n 2, 1) := by decide +kernel
theorem dX7_vanish_29 : decode cX7_vanish 29 = .ok (.aload_n 0, 1) := by decide +kernel
theorem dX7_vanish_30 : decode cX7_vanish 30 = .ok (.iload_n 1, 1) := by decide +kernel
theorem dX7_vanish_31 : decode cX7_vanish 31 = .ok (.putfield 151, 3) := by decide +kernel
theorem dX7_vanish_34 : decode cX7_vanish 34 = .ok (.iload_n 2, 1) := by decide +kernel
theorem dX7_vanish_35 : decode cX7_vanish 35 = .ok (.ireturn, 1) := by decide +kernel
theorem dX7_empty_0 : decode cX7_empty 0 = .ok (.aload_n 0, 1) := by decide +kernel
theorem dX7_empty_1 : decode cX7_empty 1 = .ok (.iconst 0, 1) := by decide +kernel
theorem dX7_empty_2 : decode cX7_empty 2 = .ok (.putfield 132, 3) := by decide +kernel
theorem dX7_empty_5 : decode cX7_empty 5 = .ok (.aload_n 0, 1) := by decide +kernel
theorem dX7_empty_6 : decode cX7_empty 6 = .ok (.getfield 154, 3) := by decide +kernel
theorem dX7_empty_9 : decode cX7_empty 9 = .ok (.istore_n 1, 1) := by decide +kernel
theorem dX7_empty_10 : decode cX7_empty 10 = .ok (.aload_n 0, 1) := by decide +kernel
theorem dX7_empty_11 : decode cX7_empty 11 = .ok (.iconst 0, 1) := by decide +kernel
theorem dX7_empty_12 : decode cX7_empty 12 = .ok (.putfield 154, 3) := by decide +kernel
theorem dX7_empty_15 : decode cX7_empty 15 = .ok (.iload_n 1, 1) := by decide +kernel
theorem dX7_empty_16 : decode cX7_empty 16 = .ok (.ireturn, 1) := by decide +kernel
theorem dX7_forget_0 : decode cX7_forget 0 = .ok (.aload_n 0, 1) := by decide +kernel
theorem dX7_forget_1 : decode cX7_forget 1 = .ok (.iconst 0, 1) := by decide +kernel
theorem dX7_forget_2 : decode cX7_forget 2 = .ok (.putfield 132, 3) := by decide +kernel
theorem dX7_forget_5 : decode cX7_forget 5 = .ok (.iconst 0, 1) := by decide +kernel
theorem dX7_forget_6 : decode cX7_forget 6 = .ok (.istore_n 1, 1) := by decide +kernel
theorem dX7_forget_7 : decode cX7_forget 7 = .ok (.iconst 0, 1) := by decide +kernel
theorem dX7_forget_8 : decode cX7_forget 8 = .ok (.istore_n 2, 1) := by decide +kernel
theorem dX7_forget_9 : decode cX7_forget 9 = .ok (.iload_n 2, 1) := by decide +kernel
theorem dX7_forget_10 : decode cX7_forget 10 = .ok (.bipush 32, 2) := by decide +kernel
theorem dX7_forget_12 : decode cX7_forget 12 = .ok (.if_icmp .ge 33, 3) := by decide +kernel
theorem dX7_forget_15 : decode cX7_forget 15 = .ok (.iload_n 1, 1) := by decide +kernel
theorem dX7_forget_16 : decode cX7_forget 16 = .ok (.aload_n 0, 1) := by decide +kernel
theorem dX7_forget_17 : decode cX7_forget 17 = .ok (.getfield 44, 3) := by decide +kernel
theorem dX7_forget_20 : decode cX7_forget 20 = .ok (.iload_n 2, 1) := by decide +kernel
theorem dX7_forget_21 : decode cX7_forget 21 = .ok (.baload, 1) := by decide +kernel
theorem dX7_forget_22 : decode cX7_forget 22 = .ok (.ifCond .eq 7, 3) := by decide +kernel
theorem dX7_forget_25 : decode cX7_forget 25 = .ok (.iconst 1, 1) := by decide +kernel
theorem dX7_forget_26 : decode cX7_forget 26 = .ok (.goto 4, 3) := by decide +kernel
theorem dX7_forget_29 : decode cX7_forget 29 = .ok (.iconst 0, 1) := by decide +kernel
theorem dX7_forget_30 : decode cX7_forget 30 = .ok (.iadd, 1) := by decide +kernel
theorem dX7_forget_31 : decode cX7_forget 31 = .ok (.istore_n 1, 1) := by decide +kernel
theorem dX7_forget_32 : decode cX7_forget 32 = .ok (.aload_n 0, 1) := by decide +kernel
theorem dX7_forget_33 : decode cX7_forget 33 = .ok (.getfield 44, 3) := by decide +kernel
theorem dX7_forget_36 : decode cX7_forget 36 = .ok (.iload_n 2, 1) := by decide +kernel
theorem dX7_forget_37 : decode cX7_forget 37 = .ok (.iconst 0, 1) := by decide +kernel
theorem dX7_forget_38 : decode cX7_forget 38 = .ok (.bastore, 1) := by decide +kernel
theorem dX7_forget_39 : decode cX7_forget 39 = .ok (.iinc 2 1, 3) := by decide +kernel
theorem dX7_forget_42 : decode cX7_forget 42 = .ok (.goto (-33), 3) := by decide +kernel
theorem dX7_forget_45 : decode cX7_forget 45 = .ok (.iload_n 1, 1) := by decide +kernel
theorem dX7_forget_46 : decode cX7_forget 46 = .ok (.ireturn, 1) := by decide +kernel
theorem dX7_ruleOf_0 : decode cX7_ruleOf 0 = .ok (.aload_n 0, 1) := by decide +kernel
theorem dX7_ruleOf_1 : decode cX7_ruleOf 1 = .ok (.getfield 13, 3) := by decide +kernel
theorem dX7_ruleOf_4 : decode cX7_ruleOf 4 = .ok (.iload_n 1, 1) := by decide +kernel
theorem dX7_ruleOf_5 : decode cX7_ruleOf 5 = .ok (.iaload, 1) := by decide +kernel
theorem dX7_ruleOf_6 : decode cX7_ruleOf 6 = .ok (.i2l, 1) := by decide +kernel
theorem dX7_ruleOf_7 : decode cX7_ruleOf 7 = .ok (.lconst 1, 1) := by decide +kernel
theorem dX7_ruleOf_8 : decode cX7_ruleOf 8 = .ok (.ladd, 1) := by decide +kernel
theorem dX7_ruleOf_9 : decode cX7_ruleOf 9 = .ok (.ldc2_w 157, 3) := by decide +kernel
theorem dX7_ruleOf_12 : decode cX7_ruleOf 12 = .ok (.aload_n 0, 1) := by decide +kernel
theorem dX7_ruleOf_13 : decode cX7_ruleOf 13 = .ok (.getfield 16, 3) := by decide +kernel
theorem dX7_ruleOf_16 : decode cX7_ruleOf 16 = .ok (.iload_n 1, 1) := by decide +kernel
theorem dX7_ruleOf_17 : decode cX7_ruleOf 17 = .ok (.iaload, 1) := by decide +kernel
theorem dX7_ruleOf_18 : decode cX7_ruleOf 18 = .ok (.i2l, 1) := by decide +kernel
theorem dX7_ruleOf_19 : decode cX7_ruleOf 19 = .ok (.lmul, 1) := by decide +kernel
theorem dX7_ruleOf_20 : decode cX7_ruleOf 20 = .ok (.ladd, 1) := by decide +kernel
theorem dX7_ruleOf_21 : decode cX7_ruleOf 21 = .ok (.ldc2_w 159, 3) := by decide +kernel
theorem dX7_ruleOf_24 : decode cX7_ruleOf 24 = .ok (.aload_n 0, 1) := by decide +kernel
theorem dX7_ruleOf_25 : decode cX7_ruleOf 25 = .ok (.getfield 19, 3) := by decide +kernel
theorem dX7_ruleOf_28 : decode cX7_ruleOf 28 = .ok (.iload_n 1, 1) := by decide +kernel
theorem dX7_ruleOf_29 : decode cX7_ruleOf 29 = .ok (.iaload, 1) := by decide +kernel
theorem dX7_ruleOf_30 : decode cX7_ruleOf 30 = .ok (.i2l, 1) := by decide +kernel
theorem dX7_ruleOf_31 : decode cX7_ruleOf 31 = .ok (.lmul, 1) := by decide +kernel
theorem dX7_ruleOf_32 : decode cX7_ruleOf 32 = .ok (.ladd, 1) := by decide +kernel
theorem dX7_ruleOf_33 : decode cX7_ruleOf 33 = .ok (.ldc2_w 161, 3) := by decide +kernel
theorem dX7_ruleOf_36 : decode cX7_ruleOf 36 = .ok (.aload_n 0, 1) := by decide +kernel
theorem dX7_ruleOf_37 : decode cX7_ruleOf 37 = .ok (.getfield 25, 3) := by decide +kernel
theorem dX7_ruleOf_40 : decode cX7_ruleOf 40 = .ok (.iload_n 1, 1) := by decide +kernel
theorem dX7_ruleOf_41 : decode cX7_ruleOf 41 = .ok (.iaload, 1) := by decide +kernel
theorem dX7_ruleOf_42 : decode cX7_ruleOf 42 = .ok (.i2l, 1) := by decide +kernel
theorem dX7_ruleOf_43 : decode cX7_ruleOf 43 = .ok (.lmul, 1) := by decide +kernel
theorem dX7_ruleOf_44 : decode cX7_ruleOf 44 = .ok (.ladd, 1) := by decide +kernel
theorem dX7_ruleOf_45 : decode cX7_ruleOf 45 = .ok (.lstore_n 2, 1) := by decide +kernel
theorem dX7_ruleOf_46 : decode cX7_ruleOf 46 = .ok (.iconst 0, 1) := by decide +kernel
theorem dX7_ruleOf_47 : decode cX7_ruleOf 47 = .ok (.istore 4, 2) := by decide +kernel
theorem dX7_ruleOf_49 : decode cX7_ruleOf 49 = .ok (.iload 4, 2) := by decide +kernel
theorem dX7_ruleOf_51 : decode cX7_ruleOf 51 = .ok (.aload_n 0, 1) := by decide +kernel
theorem dX7_ruleOf_52 : decode cX7_ruleOf 52 = .ok (.getfield 25, 3) := by decide +kernel
theorem dX7_ruleOf_55 : decode cX7_ruleOf 55 = .ok (.iload_n 1, 1) := by decide +kernel
theorem dX7_ruleOf_56 : decode cX7_ruleOf 56 = .ok (.iaload, 1) := by decide +kernel
theorem dX7_ruleOf_57 : decode cX7_ruleOf 57 = .ok (.if_icmp .ge 48, 3) := by decide +kernel
theorem dX7_ruleOf_60 : decode cX7_ruleOf 60 = .ok (.lload_n 2, 1) := by decide +kernel
theorem dX7_ruleOf_61 : decode cX7_ruleOf 61 = .ok (.aload_n 0, 1) := by decide +kernel
theorem dX7_ruleOf_62 : decode cX7_ruleOf 62 = .ok (.getfield 28, 3) := by decide +kernel
theorem dX7_ruleOf_65 : decode cX7_ruleOf 65 = .ok (.iconst 4, 1) := by decide +kernel
theorem dX7_ruleOf_66 : decode cX7_ruleOf 66 = .ok (.iload_n 1, 1) := by decide +kernel
theorem dX7_ruleOf_67 : decode cX7_ruleOf 67 = .ok (.imul, 1) := by decide +kernel
theorem dX7_ruleOf_68 : decode cX7_ruleOf 68 = .ok (.iload 4, 2) := by decide +kernel
theorem dX7_ruleOf_70 : decode cX7_ruleOf 70 = .ok (.iadd, 1) := by decide +kernel
theorem dX7_ruleOf_71 : decode cX7_ruleOf 71 = .ok (.iaload, 1) := by decide +kernel
theorem dX7_ruleOf_72 : decode cX7_ruleOf 72 = .ok (.bipush 32, 2) := by decide +kernel
theorem dX7_ruleOf_74 : decode cX7_ruleOf 74 = .ok (.imul, 1) := by decide +kernel
theorem dX7_ruleOf_75 : decode cX7_ruleOf 75 = .ok (.aload_n 0, 1) := by decide +kernel
theorem dX7_ruleOf_76 : decode cX7_ruleOf 76 = .ok (.getfield 31, 3) := by decide +kernel
theorem dX7_ruleOf_79 : decode cX7_ruleOf 79 = .ok (.iconst 4, 1) := by decide +kernel
theorem dX7_ruleOf_80 : decode cX7_ruleOf 80 = .ok (.iload_n 1, 1) := by decide +kernel
theorem dX7_ruleOf_81 : decode cX7_ruleOf 81 = .ok (.imul, 1) := by decide +kernel
theorem dX7_ruleOf_82 : decode cX7_ruleOf 82 = .ok (.iload 4, 2) := by decide +kernel
theorem dX7_ruleOf_84 : decode cX7_ruleOf 84 = .ok (.iadd, 1) := by decide +kernel
theorem dX7_ruleOf_85 : decode cX7_ruleOf 85 = .ok (.iaload, 1) := by decide +kernel
theorem dX7_ruleOf_86 : decode cX7_ruleOf 86 = .ok (.iadd, 1) := by decide +kernel
theorem dX7_ruleOf_87 : decode cX7_ruleOf 87 = .ok (.i2l, 1) := by decide +kernel
theorem dX7_ruleOf_88 : decode cX7_ruleOf 88 = .ok (.bipush 26, 2) := by decide +kernel
theorem dX7_ruleOf_90 : decode cX7_ruleOf 90 = .ok (.bipush 7, 2) := by decide +kernel
theorem dX7_ruleOf_92 : decode cX7_ruleOf 92 = .ok (.iload 4, 2) := by decide +kernel
theorem dX7_ruleOf_94 : decode cX7_ruleOf 94 = .ok (.imul, 1) := by decide +kernel
theorem dX7_ruleOf_95 : decode cX7_ruleOf 95 = .ok (.iadd, 1) := by decide +kernel
theorem dX7_ruleOf_96 : decode cX7_ruleOf 96 = .ok (.lshl, 1) := by decide +kernel
theorem dX7_ruleOf_97 : decode cX7_ruleOf 97 = .ok (.lor, 1) := by decide +kernel
theorem dX7_ruleOf_98 : decode cX7_ruleOf 98 = .ok (.lstore_n 2, 1) := by decide +kernel
theorem dX7_ruleOf_99 : decode cX7_ruleOf 99 = .ok (.iinc 4 1, 3) := by decide +kernel
theorem dX7_ruleOf_102 : decode cX7_ruleOf 102 = .ok (.goto (-53), 3) := by decide +kernel
theorem dX7_ruleOf_105 : decode cX7_ruleOf 105 = .ok (.lload_n 2, 1) := by decide +kernel
theorem dX7_ruleOf_106 : decode cX7_ruleOf 106 = .ok (.lreturn, 1) := by decide +kernel
theorem dX7_folder_0 : decode cX7_folder 0 = .ok (.lconst 0, 1) := by decide +kernel
theorem dX7_folder_1 : decode cX7_folder 1 = .ok (.lstore_n 2, 1) := by decide +kernel
theorem dX7_folder_2 : decode cX7_folder 2 = .ok (.iconst 0, 1) := by decide +kernel
theorem dX7_folder_3 : decode cX7_folder 3 = .ok (.istore 4, 2) := by decide +kernel
theorem dX7_folder_5 : decode cX7_folder 5 = .ok (.iload 4, 2) := by decide +kernel
theorem dX7_folder_7 : decode cX7_folder 7 = .ok (.iconst 5, 1) := by decide +kernel
theorem dX7_folder_8 : decode cX7_folder 8 = .ok (.if_icmp .ge 30, 3) := by decide +kernel
theorem dX7_folder_11 : decode cX7_folder 11 = .ok (.ldc2_w 163, 3) := by decide +kernel
theorem dX7_folder_14 : decode cX7_folder 14 = .ok (.lload_n 2, 1) := by decide +kernel
theorem dX7_folder_15 : decode cX7_folder 15 = .ok (.lmul, 1) := by decide +kernel
theorem dX7_folder_16 : decode cX7_folder 16 = .ok (.aload_n 0, 1) := by decide +kernel
theorem dX7_folder_17 : decode cX7_folder 17 = .ok (.getfield 7, 3) := by decide +kernel
theorem dX7_folder_20 : decode cX7_folder 20 = .ok (.iconst 5, 1) := by decide +kernel
theorem dX7_folder_21 : decode cX7_folder 21 = .ok (.iload_n 1, 1) := by decide +kernel
theorem dX7_folder_22 : decode cX7_folder 22 = .ok (.imul, 1) := by decide +kernel
theorem dX7_folder_23 : decode cX7_folder 23 = .ok (.iload 4, 2) := by decide +kernel
theorem dX7_folder_25 : decode cX7_folder 25 = .ok (.iadd, 1) := by decide +kernel
theorem dX7_folder_26 : decode cX7_folder 26 = .ok (.iaload, 1) := by decide +kernel
theorem dX7_folder_27 : decode cX7_folder 27 = .ok (.i2l, 1) := by decide +kernel
theorem dX7_folder_28 : decode cX7_folder 28 = .ok (.ladd, 1) := by decide +kernel
theorem dX7_folder_29 : decode cX7_folder 29 = .ok (.lconst 1, 1) := by decide +kernel
theorem dX7_folder_30 : decode cX7_folder 30 = .ok (.ladd, 1) := by decide +kernel
theorem dX7_folder_31 : decode cX7_folder 31 = .ok (.lstore_n 2, 1) := by decide +kernel
theorem dX7_folder_32 : decode cX7_folder 32 = .ok (.iinc 4 1, 3) := by decide +kernel
theorem dX7_folder_35 : decode cX7_folder 35 = .ok (.goto (-30), 3) := by decide +kernel
theorem dX7_folder_38 : decode cX7_folder 38 = .ok (.lload_n 2, 1) := by decide +kernel
theorem dX7_folder_39 : decode cX7_folder 39 = .ok (.lreturn, 1) := by decide +kernel
theorem dX7_sumOf_0 : decode cX7_sumOf 0 = .ok (.iconst 0, 1) := by decide +kernel
theorem dX7_sumOf_1 : decode cX7_sumOf 1 = .ok (.istore_n 2, 1) := by decide +kernel
theorem dX7_sumOf_2 : decode cX7_sumOf 2 = .ok (.iconst 0, 1) := by decide +kernel
theorem dX7_sumOf_3 : decode cX7_sumOf 3 = .ok (.istore_n 3, 1) := by decide +kernel
theorem dX7_sumOf_4 : decode cX7_sumOf 4 = .ok (.iload_n 3, 1) := by decide +kernel
theorem dX7_sumOf_5 : decode cX7_sumOf 5 = .ok (.iconst 5, 1) := by decide +kernel
theorem dX7_sumOf_6 : decode cX7_sumOf 6 = .ok (.if_icmp .ge 40, 3) := by decide +kernel
theorem dX7_sumOf_9 : decode cX7_sumOf 9 = .ok (.iload_n 2, 1) := by decide +kernel
theorem dX7_sumOf_10 : decode cX7_sumOf 10 = .ok (.aload_n 0, 1) := by decide +kernel
theorem dX7_sumOf_11 : decode cX7_sumOf 11 = .ok (.getfield 7, 3) := by decide +kernel
theorem dX7_sumOf_14 : decode cX7_sumOf 14 = .ok (.iconst 5, 1) := by decide +kernel
theorem dX7_sumOf_15 : decode cX7_sumOf 15 = .ok (.iload_n 1, 1) := by decide +kernel
theorem dX7_sumOf_16 : decode cX7_sumOf 16 = .ok (.imul, 1) := by decide +kernel
theorem dX7_sumOf_17 : decode cX7_sumOf 17 = .ok (.iload_n 3, 1) := by decide +kernel
theorem dX7_sumOf_18 : decode cX7_sumOf 18 = .ok (.iadd, 1) := by decide +kernel
theorem dX7_sumOf_19 : decode cX7_sumOf 19 = .ok (.iaload, 1) := by decide +kernel
theorem dX7_sumOf_20 : decode cX7_sumOf 20 = .ok (.iconst (-1), 1) := by decide +kernel
theorem dX7_sumOf_21 : decode cX7_sumOf 21 = .ok (.if_icmp .ne 7, 3) := by decide +kernel
theorem dX7_sumOf_24 : decode cX7_sumOf 24 = .ok (.iconst 0, 1) := by decide +kernel
theorem dX7_sumOf_25 : decode cX7_sumOf 25 = .ok (.goto 13, 3) := by decide +kernel
theorem dX7_sumOf_28 : decode cX7_sumOf 28 = .ok (.aload_n 0, 1) := by decide +kernel
theorem dX7_sumOf_29 : decode cX7_sumOf 29 = .ok (.getfield 7, 3) := by decide +kernel
theorem dX7_sumOf_32 : decode cX7_sumOf 32 = .ok (.iconst 5, 1) := by decide +kernel
theorem dX7_sumOf_33 : decode cX7_sumOf 33 = .ok (.iload_n 1, 1) := by decide +kernel
theorem dX7_sumOf_34 : decode cX7_sumOf 34 = .ok (.imul, 1) := by decide +kernel
theorem dX7_sumOf_35 : decode cX7_sumOf 35 = .ok (.iload_n 3, 1) := by decide +kernel
theorem dX7_sumOf_36 : decode cX7_sumOf 36 = .ok (.iadd, 1) := by decide +kernel
theorem dX7_sumOf_37 : decode cX7_sumOf 37 = .ok (.iaload, 1) := by decide +kernel
theorem dX7_sumOf_38 : decode cX7_sumOf 38 = .ok (.iadd, 1) := by decide +kernel
theorem dX7_sumOf_39 : decode cX7_sumOf 39 = .ok (.istore_n 2, 1) := by decide +kernel
theorem dX7_sumOf_40 : decode cX7_sumOf 40 = .ok (.iinc 3 1, 3) := by decide +kernel
theorem dX7_sumOf_43 : decode cX7_sumOf 43 = .ok (.goto (-39), 3) := by decide +kernel
theorem dX7_sumOf_46 : decode cX7_sumOf 46 = .ok (.iload_n 2, 1) := by decide +kernel
theorem dX7_sumOf_47 : decode cX7_sumOf 47 = .ok (.sipush 1000, 3) := by decide +kernel
theorem dX7_sumOf_50 : decode cX7_sumOf 50 = .ok (.irem, 1) := by decide +kernel
theorem dX7_sumOf_51 : decode cX7_sumOf 51 = .ok (.ireturn, 1) := by decide +kernel
theorem dX7_nodeOf_0 : decode cX7_nodeOf 0 = .ok (.iconst 2, 1) := by decide +kernel
theorem dX7_nodeOf_1 : decode cX7_nodeOf 1 = .ok (.iload_n 1, 1) := by decide +kernel
theorem dX7_nodeOf_2 : decode cX7_nodeOf 2 = .ok (.imul, 1) := by decide +kernel
theorem dX7_nodeOf_3 : decode cX7_nodeOf 3 = .ok (.iload_n 0, 1) := by decide +kernel
theorem dX7_nodeOf_4 : decode cX7_nodeOf 4 = .ok (.iconst 3, 1) := by decide +kernel
theorem dX7_nodeOf_5 : decode cX7_nodeOf 5 = .ok (.if_icmp .ne 9, 3) := by decide +kernel
theorem dX7_nodeOf_8 : decode cX7_nodeOf 8 = .ok (.iconst 1, 1) := by decide +kernel
theorem dX7_nodeOf_9 : decode cX7_nodeOf 9 = .ok (.iload_n 2, 1) := by decide +kernel
theorem dX7_nodeOf_10 : decode cX7_nodeOf 10 = .ok (.isub, 1) := by decide +kernel
theorem dX7_nodeOf_11 : decode cX7_nodeOf 11 = .ok (.goto 4, 3) := by decide +kernel
theorem dX7_nodeOf_14 : decode cX7_nodeOf 14 = .ok (.iload_n 2, 1) := by decide +kernel
theorem dX7_nodeOf_15 : decode cX7_nodeOf 15 = .ok (.iadd, 1) := by decide +kernel
theorem dX7_nodeOf_16 : decode cX7_nodeOf 16 = .ok (.ireturn, 1) := by decide +kernel
set_option maxRecDepth 20000 in
theorem ggX7_pushes_X7_ruleOf : GoodIn wsX7_pushes wsX7_ruleOf := goodIn_r _ [19, 8, 20, 21, 22, 23, 24, 25, 26, 27, 28, 29, 30, 31, 32, 33, 34, 35, 36, 37, 38, 39, 40, 41, 42, 43, 44, 45, 46, 47, 48, 49, 50, 51, 52, 53, 54, 55, 56, 57, 58, 59, 60, 61, 62, 63, 64, 65, 66, 67, 68, 69, 70, 71, 72, 73, 74, 75] (by decide +kernel) (by decide +kernel)
set_option maxRecDepth 20000 in
theorem gX7_pushes_X7_ruleOf : GoodIn wsX7_pushes (wsV RX7 168 RX7 yX7_ruleOf wsX7_ruleOf) := goodIn_app (goodIn_of _ (by decide +kernel)) ggX7_pushes_X7_ruleOf
theorem dX7_pushes_0 : decode cX7_pushes 0 = .ok (.aload_n 0, 1) := by decide +kernel
theorem dX7_pushes_1 : decode cX7_pushes 1 = .ok (.getfield 99, 3) := by decide +kernel
theorem dX7_pushes_4 : decode cX7_pushes 4 = .ok (.aload_n 0, 1) := by decide +kernel
theorem dX7_pushes_5 : decode cX7_pushes 5 = .ok (.getfield 165, 3) := by decide +kernel
theorem dX7_pushes_8 : decode cX7_pushes 8 = .ok (.iload_n 1, 1) := by decide +kernel
theorem dX7_pushes_9 : decode cX7_pushes 9 = .ok (.iastore, 1) := by decide +kernel
theorem dX7_pushes_10 : decode cX7_pushes 10 = .ok (.aload_n 0, 1) := by decide +kernel
theorem dX7_pushes_11 : decode cX7_pushes 11 = .ok (.dup, 1) := by decide +kernel
theorem dX7_pushes_12 : decode cX7_pushes 12 = .ok (.getfield 165, 3) := by decide +kernel
theorem dX7_pushes_15 : decode cX7_pushes 15 = .ok (.iconst 1, 1) := by decide +kernel
theorem dX7_pushes_16 : decode cX7_pushes 16 = .ok (.iadd, 1) := by decide +kernel
theorem dX7_pushes_17 : decode cX7_pushes 17 = .ok (.putfield 165, 3) := by decide +kernel
theorem dX7_pushes_20 : decode cX7_pushes 20 = .ok (.aload_n 0, 1) := by decide +kernel
theorem dX7_pushes_21 : decode cX7_pushes 21 = .ok (.getfield 84, 3) := by decide +kernel
theorem dX7_pushes_24 : decode cX7_pushes 24 = .ok (.iload_n 1, 1) := by decide +kernel
theorem dX7_pushes_25 : decode cX7_pushes 25 = .ok (.iconst 1, 1) := by decide +kernel
theorem dX7_pushes_26 : decode cX7_pushes 26 = .ok (.iastore, 1) := by decide +kernel
theorem dX7_pushes_27 : decode cX7_pushes 27 = .ok (.aload_n 0, 1) := by decide +kernel
theorem dX7_pushes_28 : decode cX7_pushes 28 = .ok (.getfield 96, 3) := by decide +kernel
theorem dX7_pushes_31 : decode cX7_pushes 31 = .ok (.iconst 3, 1) := by decide +kernel
theorem dX7_pushes_32 : decode cX7_pushes 32 = .ok (.dup2, 1) := by decide +kernel
theorem dX7_pushes_33 : decode cX7_pushes 33 = .ok (.iaload, 1) := by decide +kernel
theorem dX7_pushes_34 : decode cX7_pushes 34 = .ok (.iconst 1, 1) := by decide +kernel
theorem dX7_pushes_35 : decode cX7_pushes 35 = .ok (.iadd, 1) := by decide +kernel
theorem dX7_pushes_36 : decode cX7_pushes 36 = .ok (.iastore, 1) := by decide +kernel
theorem dX7_pushes_37 : decode cX7_pushes 37 = .ok (.aload_n 0, 1) := by decide +kernel
theorem dX7_pushes_38 : decode cX7_pushes 38 = .ok (.getfield 108, 3) := by decide +kernel
theorem dX7_pushes_41 : decode cX7_pushes 41 = .ok (.iload_n 1, 1) := by decide +kernel
theorem dX7_pushes_42 : decode cX7_pushes 42 = .ok (.iconst 0, 1) := by decide +kernel
theorem dX7_pushes_43 : decode cX7_pushes 43 = .ok (.iastore, 1) := by decide +kernel
theorem dX7_pushes_44 : decode cX7_pushes 44 = .ok (.aload_n 0, 1) := by decide +kernel
theorem dX7_pushes_45 : decode cX7_pushes 45 = .ok (.getfield 105, 3) := by decide +kernel
theorem dX7_pushes_48 : decode cX7_pushes 48 = .ok (.iload_n 1, 1) := by decide +kernel
theorem dX7_pushes_49 : decode cX7_pushes 49 = .ok (.iconst 0, 1) := by decide +kernel
theorem dX7_pushes_50 : decode cX7_pushes 50 = .ok (.iastore, 1) := by decide +kernel
theorem dX7_pushes_51 : decode cX7_pushes 51 = .ok (.iload_n 1, 1) := by decide +kernel
theorem dX7_pushes_52 : decode cX7_pushes 52 = .ok (.iconst 2, 1) := by decide +kernel
theorem dX7_pushes_53 : decode cX7_pushes 53 = .ok (.idiv, 1) := by decide +kernel
theorem dX7_pushes_54 : decode cX7_pushes 54 = .ok (.istore_n 2, 1) := by decide +kernel
theorem dX7_pushes_55 : decode cX7_pushes 55 = .ok (.aload_n 0, 1) := by decide +kernel
theorem dX7_pushes_56 : decode cX7_pushes 56 = .ok (.getfield 44, 3) := by decide +kernel
theorem dX7_pushes_59 : decode cX7_pushes 59 = .ok (.iload_n 1, 1) := by decide +kernel
theorem dX7_pushes_60 : decode cX7_pushes 60 = .ok (.baload, 1) := by decide +kernel
theorem dX7_pushes_61 : decode cX7_pushes 61 = .ok (.ifCond .eq 47, 3) := by decide +kernel
theorem dX7_pushes_64 : decode cX7_pushes 64 = .ok (.aload_n 0, 1) := by decide +kernel
theorem dX7_pushes_65 : decode cX7_pushes 65 = .ok (.getfield 13, 3) := by decide +kernel
theorem dX7_pushes_68 : decode cX7_pushes 68 = .ok (.iload_n 2, 1) := by decide +kernel
theorem dX7_pushes_69 : decode cX7_pushes 69 = .ok (.iaload, 1) := by decide +kernel
theorem dX7_pushes_70 : decode cX7_pushes 70 = .ok (.iconst (-1), 1) := by decide +kernel
theorem dX7_pushes_71 : decode cX7_pushes 71 = .ok (.if_icmp .eq 37, 3) := by decide +kernel
theorem dX7_pushes_74 : decode cX7_pushes 74 = .ok (.aload_n 0, 1) := by decide +kernel
theorem dX7_pushes_75 : decode cX7_pushes 75 = .ok (.getfield 47, 3) := by decide +kernel
theorem dX7_pushes_78 : decode cX7_pushes 78 = .ok (.iload_n 1, 1) := by decide +kernel
theorem dX7_pushes_79 : decode cX7_pushes 79 = .ok (.laload, 1) := by decide +kernel
theorem dX7_pushes_80 : decode cX7_pushes 80 = .ok (.aload_n 0, 1) := by decide +kernel
theorem dX7_pushes_81 : decode cX7_pushes 81 = .ok (.iload_n 2, 1) := by decide +kernel
theorem dX7_pushes_82 : decode cX7_pushes 82 = .ok (.invokevirtual 168, 3) := by decide +kernel
theorem dX7_pushes_85 : decode cX7_pushes 85 = .ok (.lcmp, 1) := by decide +kernel
theorem dX7_pushes_86 : decode cX7_pushes 86 = .ok (.ifCond .ne 22, 3) := by decide +kernel
theorem dX7_pushes_89 : decode cX7_pushes 89 = .ok (.aload_n 0, 1) := by decide +kernel
theorem dX7_pushes_90 : decode cX7_pushes 90 = .ok (.getfield 51, 3) := by decide +kernel
theorem dX7_pushes_93 : decode cX7_pushes 93 = .ok (.iload_n 1, 1) := by decide +kernel
theorem dX7_pushes_94 : decode cX7_pushes 94 = .ok (.iaload, 1) := by decide +kernel
theorem dX7_pushes_95 : decode cX7_pushes 95 = .ok (.aload_n 0, 1) := by decide +kernel
theorem dX7_pushes_96 : decode cX7_pushes 96 = .ok (.getfield 22, 3) := by decide +kernel
theorem dX7_pushes_99 : decode cX7_pushes 99 = .ok (.iload_n 2, 1) := by decide +kernel
theorem dX7_pushes_100 : decode cX7_pushes 100 = .ok (.iaload, 1) := by decide +kernel
theorem dX7_pushes_101 : decode cX7_pushes 101 = .ok (.if_icmp .ne 7, 3) := by decide +kernel
theorem dX7_pushes_104 : decode cX7_pushes 104 = .ok (.iconst 1, 1) := by decide +kernel
theorem dX7_pushes_105 : decode cX7_pushes 105 = .ok (.goto 4, 3) := by decide +kernel
theorem dX7_pushes_108 : decode cX7_pushes 108 = .ok (.iconst 0, 1) := by decide +kernel
theorem dX7_pushes_109 : decode cX7_pushes 109 = .ok (.istore_n 3, 1) := by decide +kernel
theorem dX7_pushes_110 : decode cX7_pushes 110 = .ok (.aload_n 0, 1) := by decide +kernel
theorem dX7_pushes_111 : decode cX7_pushes 111 = .ok (.getfield 102, 3) := by decide +kernel
theorem dX7_pushes_114 : decode cX7_pushes 114 = .ok (.iload_n 1, 1) := by decide +kernel
theorem dX7_pushes_115 : decode cX7_pushes 115 = .ok (.iload_n 3, 1) := by decide +kernel
theorem dX7_pushes_116 : decode cX7_pushes 116 = .ok (.ifCond .eq 14, 3) := by decide +kernel
theorem dX7_pushes_119 : decode cX7_pushes 119 = .ok (.aload_n 0, 1) := by decide +kernel
theorem dX7_pushes_120 : decode cX7_pushes 120 = .ok (.getfield 172, 3) := by decide +kernel
theorem dX7_pushes_123 : decode cX7_pushes 123 = .ok (.ifCond .ne 7, 3) := by decide +kernel
theorem dX7_pushes_126 : decode cX7_pushes 126 = .ok (.iconst 1, 1) := by decide +kernel
theorem dX7_pushes_127 : decode cX7_pushes 127 = .ok (.goto 4, 3) := by decide +kernel
theorem dX7_pushes_130 : decode cX7_pushes 130 = .ok (.iconst 0, 1) := by decide +kernel
theorem dX7_pushes_131 : decode cX7_pushes 131 = .ok (.bastore, 1) := by decide +kernel
theorem dX7_pushes_132 : decode cX7_pushes 132 = .ok (.aload_n 0, 1) := by decide +kernel
theorem dX7_pushes_133 : decode cX7_pushes 133 = .ok (.getfield 93, 3) := by decide +kernel
theorem dX7_pushes_136 : decode cX7_pushes 136 = .ok (.iload_n 1, 1) := by decide +kernel
theorem dX7_pushes_137 : decode cX7_pushes 137 = .ok (.iload_n 3, 1) := by decide +kernel
theorem dX7_pushes_138 : decode cX7_pushes 138 = .ok (.ifCond .eq 7, 3) := by decide +kernel
theorem dX7_pushes_141 : decode cX7_pushes 141 = .ok (.iconst 0, 1) := by decide +kernel
theorem dX7_pushes_142 : decode cX7_pushes 142 = .ok (.goto 17, 3) := by decide +kernel
theorem dX7_pushes_145 : decode cX7_pushes 145 = .ok (.aload_n 0, 1) := by decide +kernel
theorem dX7_pushes_146 : decode cX7_pushes 146 = .ok (.getfield 44, 3) := by decide +kernel
theorem dX7_pushes_149 : decode cX7_pushes 149 = .ok (.iload_n 1, 1) := by decide +kernel
theorem dX7_pushes_150 : decode cX7_pushes 150 = .ok (.baload, 1) := by decide +kernel
theorem dX7_pushes_151 : decode cX7_pushes 151 = .ok (.ifCond .eq 7, 3) := by decide +kernel
theorem dX7_pushes_154 : decode cX7_pushes 154 = .ok (.iconst 2, 1) := by decide +kernel
theorem dX7_pushes_155 : decode cX7_pushes 155 = .ok (.goto 4, 3) := by decide +kernel
theorem dX7_pushes_158 : decode cX7_pushes 158 = .ok (.iconst 1, 1) := by decide +kernel
theorem dX7_pushes_159 : decode cX7_pushes 159 = .ok (.iastore, 1) := by decide +kernel
theorem dX7_pushes_160 : decode cX7_pushes 160 = .ok (.return_, 1) := by decide +kernel
theorem dX7_finishes_0 : decode cX7_finishes 0 = .ok (.aload_n 0, 1) := by decide +kernel
theorem dX7_finishes_1 : decode cX7_finishes 1 = .ok (.getfield 84, 3) := by decide +kernel
theorem dX7_finishes_4 : decode cX7_finishes 4 = .ok (.iload_n 1, 1) := by decide +kernel
theorem dX7_finishes_5 : decode cX7_finishes 5 = .ok (.iconst 2, 1) := by decide +kernel
theorem dX7_finishes_6 : decode cX7_finishes 6 = .ok (.iastore, 1) := by decide +kernel
theorem dX7_finishes_7 : decode cX7_finishes 7 = .ok (.aload_n 0, 1) := by decide +kernel
theorem dX7_finishes_8 : decode cX7_finishes 8 = .ok (.getfield 87, 3) := by decide +kernel
theorem dX7_finishes_11 : decode cX7_finishes 11 = .ok (.iload_n 1, 1) := by decide +kernel
theorem dX7_finishes_12 : decode cX7_finishes 12 = .ok (.iload_n 2, 1) := by decide +kernel
theorem dX7_finishes_13 : decode cX7_finishes 13 = .ok (.iastore, 1) := by decide +kernel
theorem dX7_finishes_14 : decode cX7_finishes 14 = .ok (.aload_n 0, 1) := by decide +kernel
theorem dX7_finishes_15 : decode cX7_finishes 15 = .ok (.getfield 90, 3) := by decide +kernel
theorem dX7_finishes_18 : decode cX7_finishes 18 = .ok (.iload_n 1, 1) := by decide +kernel
theorem dX7_finishes_19 : decode cX7_finishes 19 = .ok (.iload_n 3, 1) := by decide +kernel
theorem dX7_finishes_20 : decode cX7_finishes 20 = .ok (.iastore, 1) := by decide +kernel
theorem dX7_finishes_21 : decode cX7_finishes 21 = .ok (.aload_n 0, 1) := by decide +kernel
theorem dX7_finishes_22 : decode cX7_finishes 22 = .ok (.dup, 1) := by decide +kernel
theorem dX7_finishes_23 : decode cX7_finishes 23 = .ok (.getfield 165, 3) := by decide +kernel
theorem dX7_finishes_26 : decode cX7_finishes 26 = .ok (.iconst 1, 1) := by decide +kernel
theorem dX7_finishes_27 : decode cX7_finishes 27 = .ok (.isub, 1) := by decide +kernel
theorem dX7_finishes_28 : decode cX7_finishes 28 = .ok (.putfield 165, 3) := by decide +kernel
theorem dX7_finishes_31 : decode cX7_finishes 31 = .ok (.aload_n 0, 1) := by decide +kernel
theorem dX7_finishes_32 : decode cX7_finishes 32 = .ok (.getfield 172, 3) := by decide +kernel
theorem dX7_finishes_35 : decode cX7_finishes 35 = .ok (.ifCond .ne 14, 3) := by decide +kernel
theorem dX7_finishes_38 : decode cX7_finishes 38 = .ok (.iload_n 2, 1) := by decide +kernel
theorem dX7_finishes_39 : decode cX7_finishes 39 = .ok (.ifCond .ge 10, 3) := by decide +kernel
theorem dX7_finishes_42 : decode cX7_finishes 42 = .ok (.aload_n 0, 1) := by decide +kernel
theorem dX7_finishes_43 : decode cX7_finishes 43 = .ok (.getfield 44, 3) := by decide +kernel
theorem dX7_finishes_46 : decode cX7_finishes 46 = .ok (.iload_n 1, 1) := by decide +kernel
theorem dX7_finishes_47 : decode cX7_finishes 47 = .ok (.iconst 0, 1) := by decide +kernel
theorem dX7_finishes_48 : decode cX7_finishes 48 = .ok (.bastore, 1) := by decide +kernel
theorem dX7_finishes_49 : decode cX7_finishes 49 = .ok (.return_, 1) := by decide +kernel
set_option maxRecDepth 20000 in
theorem ggX7_comparesOne_X7_finishes : GoodIn wsX7_comparesOne wsX7_finishes := goodIn_r _ [19, 11, 12, 20, 21, 22, 23, 52, 53, 54, 55, 56, 57, 58, 59, 60, 61, 62, 63, 64, 65, 66, 67, 68, 69, 70, 71, 72, 73, 74, 75, 76, 77, 78, 79, 80, 81, 82, 83, 84, 85, 86, 87, 88, 89, 90, 91, 92, 93, 94, 95, 96, 97, 98, 99] (by decide +kernel) (by decide +kernel)
set_option maxRecDepth 20000 in
theorem gX7_comparesOne_X7_finishes : GoodIn wsX7_comparesOne (wsV RX7 175 RX7 yX7_finishes wsX7_finishes) := goodIn_app (goodIn_of _ (by decide +kernel)) ggX7_comparesOne_X7_finishes
set_option maxRecDepth 20000 in
theorem ggX7_comparesOne_X7_folder : GoodIn wsX7_comparesOne wsX7_folder := goodIn_r _ [27, 28, 9, 52, 53, 54, 55, 56, 57, 58, 59, 60, 61, 62, 63, 64, 65, 66, 67, 68, 69, 70, 71, 72, 73, 74, 75, 76, 77, 78, 79, 80, 81, 82, 83, 84, 85, 86, 87, 88, 89, 90, 91, 92, 93, 94, 95, 96, 97, 98, 99] (by decide +kernel) (by decide +kernel)
set_option maxRecDepth 20000 in
theorem gX7_comparesOne_X7_folder : GoodIn wsX7_comparesOne (wsV RX7 179 RX7 yX7_folder wsX7_folder) := goodIn_app (goodIn_of _ (by decide +kernel)) ggX7_comparesOne_X7_folder
set_option maxRecDepth 20000 in
theorem ggX7_comparesOne_X7_nodeOf : GoodIn wsX7_comparesOne wsX7_nodeOf := goodIn_r _ [31] (by decide +kernel) (by decide +kernel)
set_option maxRecDepth 20000 in
theorem gX7_comparesOne_X7_nodeOf : GoodIn wsX7_comparesOne (va_wsS RX7 182 yX7_nodeOf wsX7_nodeOf) := goodIn_app (goodIn_of _ (by decide +kernel)) ggX7_comparesOne_X7_nodeOf
set_option maxRecDepth 20000 in
theorem ggX7_comparesOne_X7_pushes : GoodIn wsX7_comparesOne wsX7_pushes := goodIn_r _ [35, 36, 21, 11, 3, 37, 1, 23, 38, 39, 40, 41, 14, 22, 13, 42, 43, 44, 18, 45, 46, 47, 48, 49, 50, 51, 6, 8, 52, 53, 54, 55, 56, 57, 58, 59, 60, 61, 62, 63, 64, 65, 66, 67, 68, 69, 70, 71, 72, 73, 74, 75, 76, 77, 78, 79, 80, 81, 82, 83, 84, 85, 86, 87, 88, 89, 90, 91, 92, 93, 94, 95, 96, 97, 98, 99] (by decide +kernel) (by decide +kernel)
set_option maxRecDepth 20000 in
theorem gX7_comparesOne_X7_pushes : GoodIn wsX7_comparesOne (wsV RX7 186 RX7 yX7_pushes wsX7_pushes) := goodIn_app (goodIn_of _ (by decide +kernel)) ggX7_comparesOne_X7_pushes
theorem dX7_comparesOne_0 : decode cX7_comparesOne 0 = .ok (.aload_n 0, 1) := by decide +kernel
theorem dX7_comparesOne_1 : decode cX7_comparesOne 1 = .ok (.getfield 105, 3) := by decide +kernel
theorem dX7_comparesOne_4 : decode cX7_comparesOne 4 = .ok (.iload_n 1, 1) := by decide +kernel
theorem dX7_comparesOne_5 : decode cX7_comparesOne 5 = .ok (.iaload, 1) := by decide +kernel
theorem dX7_comparesOne_6 : decode cX7_comparesOne 6 = .ok (.aload_n 0, 1) := by decide +kernel
theorem dX7_comparesOne_7 : decode cX7_comparesOne 7 = .ok (.getfield 54, 3) := by decide +kernel
theorem dX7_comparesOne_10 : decode cX7_comparesOne 10 = .ok (.iload_n 1, 1) := by decide +kernel
theorem dX7_comparesOne_11 : decode cX7_comparesOne 11 = .ok (.iaload, 1) := by decide +kernel
theorem dX7_comparesOne_12 : decode cX7_comparesOne 12 = .ok (.if_icmp .ne 26, 3) := by decide +kernel
theorem dX7_comparesOne_15 : decode cX7_comparesOne 15 = .ok (.aload_n 0, 1) := by decide +kernel
theorem dX7_comparesOne_16 : decode cX7_comparesOne 16 = .ok (.getfield 96, 3) := by decide +kernel
theorem dX7_comparesOne_19 : decode cX7_comparesOne 19 = .ok (.iconst 2, 1) := by decide +kernel
theorem dX7_comparesOne_20 : decode cX7_comparesOne 20 = .ok (.dup2, 1) := by decide +kernel
theorem dX7_comparesOne_21 : decode cX7_comparesOne 21 = .ok (.iaload, 1) := by decide +kernel
theorem dX7_comparesOne_22 : decode cX7_comparesOne 22 = .ok (.iconst 1, 1) := by decide +kernel
theorem dX7_comparesOne_23 : decode cX7_comparesOne 23 = .ok (.iadd, 1) := by decide +kernel
theorem dX7_comparesOne_24 : decode cX7_comparesOne 24 = .ok (.iastore, 1) := by decide +kernel
theorem dX7_comparesOne_25 : decode cX7_comparesOne 25 = .ok (.aload_n 0, 1) := by decide +kernel
theorem dX7_comparesOne_26 : decode cX7_comparesOne 26 = .ok (.iload_n 1, 1) := by decide +kernel
theorem dX7_comparesOne_27 : decode cX7_comparesOne 27 = .ok (.aload_n 0, 1) := by decide +kernel
theorem dX7_comparesOne_28 : decode cX7_comparesOne 28 = .ok (.getfield 66, 3) := by decide +kernel
theorem dX7_comparesOne_31 : decode cX7_comparesOne 31 = .ok (.iload_n 1, 1) := by decide +kernel
theorem dX7_comparesOne_32 : decode cX7_comparesOne 32 = .ok (.iaload, 1) := by decide +kernel
theorem dX7_comparesOne_33 : decode cX7_comparesOne 33 = .ok (.iconst 1, 1) := by decide +kernel
theorem dX7_comparesOne_34 : decode cX7_comparesOne 34 = .ok (.invokevirtual 175, 3) := by decide +kernel
theorem dX7_comparesOne_37 : decode cX7_comparesOne 37 = .ok (.return_, 1) := by decide +kernel
theorem dX7_comparesOne_38 : decode cX7_comparesOne 38 = .ok (.iconst 5, 1) := by decide +kernel
theorem dX7_comparesOne_39 : decode cX7_comparesOne 39 = .ok (.iload_n 1, 1) := by decide +kernel
theorem dX7_comparesOne_40 : decode cX7_comparesOne 40 = .ok (.imul, 1) := by decide +kernel
theorem dX7_comparesOne_41 : decode cX7_comparesOne 41 = .ok (.aload_n 0, 1) := by decide +kernel
theorem dX7_comparesOne_42 : decode cX7_comparesOne 42 = .ok (.getfield 105, 3) := by decide +kernel
theorem dX7_comparesOne_45 : decode cX7_comparesOne 45 = .ok (.iload_n 1, 1) := by decide +kernel
theorem dX7_comparesOne_46 : decode cX7_comparesOne 46 = .ok (.iaload, 1) := by decide +kernel
theorem dX7_comparesOne_47 : decode cX7_comparesOne 47 = .ok (.iadd, 1) := by decide +kernel
theorem dX7_comparesOne_48 : decode cX7_comparesOne 48 = .ok (.istore_n 2, 1) := by decide +kernel
theorem dX7_comparesOne_49 : decode cX7_comparesOne 49 = .ok (.aload_n 0, 1) := by decide +kernel
theorem dX7_comparesOne_50 : decode cX7_comparesOne 50 = .ok (.getfield 57, 3) := by decide +kernel
theorem dX7_comparesOne_53 : decode cX7_comparesOne 53 = .ok (.iload_n 2, 1) := by decide +kernel
theorem dX7_comparesOne_54 : decode cX7_comparesOne 54 = .ok (.iaload, 1) := by decide +kernel
theorem dX7_comparesOne_55 : decode cX7_comparesOne 55 = .ok (.istore_n 3, 1) := by decide +kernel
theorem dX7_comparesOne_56 : decode cX7_comparesOne 56 = .ok (.iload_n 1, 1) := by decide +kernel
theorem dX7_comparesOne_57 : decode cX7_comparesOne 57 = .ok (.iconst 2, 1) := by decide +kernel
theorem dX7_comparesOne_58 : decode cX7_comparesOne 58 = .ok (.idiv, 1) := by decide +kernel
theorem dX7_comparesOne_59 : decode cX7_comparesOne 59 = .ok (.istore 4, 2) := by decide +kernel
theorem dX7_comparesOne_61 : decode cX7_comparesOne 61 = .ok (.iload_n 3, 1) := by decide +kernel
theorem dX7_comparesOne_62 : decode cX7_comparesOne 62 = .ok (.iconst 4, 1) := by decide +kernel
theorem dX7_comparesOne_63 : decode cX7_comparesOne 63 = .ok (.if_icmp .ne 7, 3) := by decide +kernel
theorem dX7_comparesOne_66 : decode cX7_comparesOne 66 = .ok (.iconst 0, 1) := by decide +kernel
theorem dX7_comparesOne_67 : decode cX7_comparesOne 67 = .ok (.goto 14, 3) := by decide +kernel
theorem dX7_comparesOne_70 : decode cX7_comparesOne 70 = .ok (.aload_n 0, 1) := by decide +kernel
theorem dX7_comparesOne_71 : decode cX7_comparesOne 71 = .ok (.getfield 28, 3) := by decide +kernel
theorem dX7_comparesOne_74 : decode cX7_comparesOne 74 = .ok (.iconst 4, 1) := by decide +kernel
theorem dX7_comparesOne_75 : decode cX7_comparesOne 75 = .ok (.iload 4, 2) := by decide +kernel
theorem dX7_comparesOne_77 : decode cX7_comparesOne 77 = .ok (.imul, 1) := by decide +kernel
theorem dX7_comparesOne_78 : decode cX7_comparesOne 78 = .ok (.iload_n 3, 1) := by decide +kernel
theorem dX7_comparesOne_79 : decode cX7_comparesOne 79 = .ok (.iadd, 1) := by decide +kernel
theorem dX7_comparesOne_80 : decode cX7_comparesOne 80 = .ok (.iaload, 1) := by decide +kernel
theorem dX7_comparesOne_81 : decode cX7_comparesOne 81 = .ok (.istore 5, 2) := by decide +kernel
theorem dX7_comparesOne_83 : decode cX7_comparesOne 83 = .ok (.iload_n 3, 1) := by decide +kernel
theorem dX7_comparesOne_84 : decode cX7_comparesOne 84 = .ok (.iconst 4, 1) := by decide +kernel
theorem dX7_comparesOne_85 : decode cX7_comparesOne 85 = .ok (.if_icmp .ne 12, 3) := by decide +kernel
theorem dX7_comparesOne_88 : decode cX7_comparesOne 88 = .ok (.aload_n 0, 1) := by decide +kernel
theorem dX7_comparesOne_89 : decode cX7_comparesOne 89 = .ok (.getfield 60, 3) := by decide +kernel
theorem dX7_comparesOne_92 : decode cX7_comparesOne 92 = .ok (.iload_n 2, 1) := by decide +kernel
theorem dX7_comparesOne_93 : decode cX7_comparesOne 93 = .ok (.iaload, 1) := by decide +kernel
theorem dX7_comparesOne_94 : decode cX7_comparesOne 94 = .ok (.goto 14, 3) := by decide +kernel
theorem dX7_comparesOne_97 : decode cX7_comparesOne 97 = .ok (.aload_n 0, 1) := by decide +kernel
theorem dX7_comparesOne_98 : decode cX7_comparesOne 98 = .ok (.getfield 31, 3) := by decide +kernel
theorem dX7_comparesOne_101 : decode cX7_comparesOne 101 = .ok (.iconst 4, 1) := by decide +kernel
theorem dX7_comparesOne_102 : decode cX7_comparesOne 102 = .ok (.iload 4, 2) := by decide +kernel
theorem dX7_comparesOne_104 : decode cX7_comparesOne 104 = .ok (.imul, 1) := by decide +kernel
theorem dX7_comparesOne_105 : decode cX7_comparesOne 105 = .ok (.iload_n 3, 1) := by decide +kernel
theorem dX7_comparesOne_106 : decode cX7_comparesOne 106 = .ok (.iadd, 1) := by decide +kernel
theorem dX7_comparesOne_107 : decode cX7_comparesOne 107 = .ok (.iaload, 1) := by decide +kernel
theorem dX7_comparesOne_108 : decode cX7_comparesOne 108 = .ok (.istore 6, 2) := by decide +kernel
theorem dX7_comparesOne_110 : decode cX7_comparesOne 110 = .ok (.iload 5, 2) := by decide +kernel
theorem dX7_comparesOne_112 : decode cX7_comparesOne 112 = .ok (.ifCond .ne 29, 3) := by decide +kernel
theorem dX7_comparesOne_115 : decode cX7_comparesOne 115 = .ok (.aload_n 0, 1) := by decide +kernel
theorem dX7_comparesOne_116 : decode cX7_comparesOne 116 = .ok (.getfield 7, 3) := by decide +kernel
theorem dX7_comparesOne_119 : decode cX7_comparesOne 119 = .ok (.iload 6, 2) := by decide +kernel
theorem dX7_comparesOne_121 : decode cX7_comparesOne 121 = .ok (.iaload, 1) := by decide +kernel
theorem dX7_comparesOne_122 : decode cX7_comparesOne 122 = .ok (.i2l, 1) := by decide +kernel
theorem dX7_comparesOne_123 : decode cX7_comparesOne 123 = .ok (.aload_n 0, 1) := by decide +kernel
theorem dX7_comparesOne_124 : decode cX7_comparesOne 124 = .ok (.getfield 63, 3) := by decide +kernel
theorem dX7_comparesOne_127 : decode cX7_comparesOne 127 = .ok (.iload_n 2, 1) := by decide +kernel
theorem dX7_comparesOne_128 : decode cX7_comparesOne 128 = .ok (.laload, 1) := by decide +kernel
theorem dX7_comparesOne_129 : decode cX7_comparesOne 129 = .ok (.lcmp, 1) := by decide +kernel
theorem dX7_comparesOne_130 : decode cX7_comparesOne 130 = .ok (.ifCond .ne 7, 3) := by decide +kernel
theorem dX7_comparesOne_133 : decode cX7_comparesOne 133 = .ok (.iconst 1, 1) := by decide +kernel
theorem dX7_comparesOne_134 : decode cX7_comparesOne 134 = .ok (.goto 38, 3) := by decide +kernel
theorem dX7_comparesOne_137 : decode cX7_comparesOne 137 = .ok (.iconst 0, 1) := by decide +kernel
theorem dX7_comparesOne_138 : decode cX7_comparesOne 138 = .ok (.goto 34, 3) := by decide +kernel
theorem dX7_comparesOne_141 : decode cX7_comparesOne 141 = .ok (.iload 5, 2) := by decide +kernel
theorem dX7_comparesOne_143 : decode cX7_comparesOne 143 = .ok (.iconst 1, 1) := by decide +kernel
theorem dX7_comparesOne_144 : decode cX7_comparesOne 144 = .ok (.if_icmp .ne 27, 3) := by decide +kernel
theorem dX7_comparesOne_147 : decode cX7_comparesOne 147 = .ok (.aload_n 0, 1) := by decide +kernel
theorem dX7_comparesOne_148 : decode cX7_comparesOne 148 = .ok (.iload 6, 2) := by decide +kernel
theorem dX7_comparesOne_150 : decode cX7_comparesOne 150 = .ok (.invokevirtual 179, 3) := by decide +kernel
theorem dX7_comparesOne_153 : decode cX7_comparesOne 153 = .ok (.aload_n 0, 1) := by decide +kernel
