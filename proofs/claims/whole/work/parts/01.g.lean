theorem dX7_looks_69 : decode cX7_looks 69 = .ok (.invokevirtual 245, 3) := by decide +kernel
theorem dX7_looks_72 : decode cX7_looks 72 = .ok (.goto (-41), 3) := by decide +kernel
theorem dX7_looks_75 : decode cX7_looks 75 = .ok (.aload_n 0, 1) := by decide +kernel
theorem dX7_looks_76 : decode cX7_looks 76 = .ok (.getfield 87, 3) := by decide +kernel
theorem dX7_looks_79 : decode cX7_looks 79 = .ok (.iload_n 1, 1) := by decide +kernel
theorem dX7_looks_80 : decode cX7_looks 80 = .ok (.iaload, 1) := by decide +kernel
theorem dX7_looks_81 : decode cX7_looks 81 = .ok (.ireturn, 1) := by decide +kernel
set_option maxRecDepth 20000 in
theorem ggX7_isNode_X7_isTarget : GoodIn wsX7_isNode wsX7_isTarget := goodIn_r _ [4, 5, 6, 3, 7] (by decide +kernel) (by decide +kernel)
set_option maxRecDepth 20000 in
theorem gX7_isNode_X7_isTarget : GoodIn wsX7_isNode (va_wsS RX7 144 yX7_isTarget wsX7_isTarget) := goodIn_app (goodIn_of _ (by decide +kernel)) ggX7_isNode_X7_isTarget
set_option maxRecDepth 20000 in
theorem ggX7_isNode_X7_isIn : GoodIn wsX7_isNode wsX7_isIn := goodIn_r _ [7] (by decide +kernel) (by decide +kernel)
set_option maxRecDepth 20000 in
theorem gX7_isNode_X7_isIn : GoodIn wsX7_isNode (va_wsS RX7 136 yX7_isIn wsX7_isIn) := goodIn_app (goodIn_of _ (by decide +kernel)) ggX7_isNode_X7_isIn
theorem dX7_isNode_0 : decode cX7_isNode 0 = .ok (.iload_n 0, 1) := by decide +kernel
theorem dX7_isNode_1 : decode cX7_isNode 1 = .ok (.invokestatic 144, 3) := by decide +kernel
theorem dX7_isNode_4 : decode cX7_isNode 4 = .ok (.ifCond .eq 16, 3) := by decide +kernel
theorem dX7_isNode_7 : decode cX7_isNode 7 = .ok (.iload_n 1, 1) := by decide +kernel
theorem dX7_isNode_8 : decode cX7_isNode 8 = .ok (.iconst 0, 1) := by decide +kernel
theorem dX7_isNode_9 : decode cX7_isNode 9 = .ok (.iconst 1, 1) := by decide +kernel
theorem dX7_isNode_10 : decode cX7_isNode 10 = .ok (.invokestatic 136, 3) := by decide +kernel
theorem dX7_isNode_13 : decode cX7_isNode 13 = .ok (.ifCond .eq 7, 3) := by decide +kernel
theorem dX7_isNode_16 : decode cX7_isNode 16 = .ok (.iconst 1, 1) := by decide +kernel
theorem dX7_isNode_17 : decode cX7_isNode 17 = .ok (.goto 4, 3) := by decide +kernel
theorem dX7_isNode_20 : decode cX7_isNode 20 = .ok (.iconst 0, 1) := by decide +kernel
theorem dX7_isNode_21 : decode cX7_isNode 21 = .ok (.ireturn, 1) := by decide +kernel
set_option maxRecDepth 20000 in
theorem ggX7_build_X7_isNode : GoodIn wsX7_build wsX7_isNode := goodIn_r _ [10, 11, 12, 9, 13, 14, 15, 16] (by decide +kernel) (by decide +kernel)
set_option maxRecDepth 20000 in
theorem gX7_build_X7_isNode : GoodIn wsX7_build (va_wsS RX7 248 yX7_isNode wsX7_isNode) := goodIn_app (goodIn_of _ (by decide +kernel)) ggX7_build_X7_isNode
set_option maxRecDepth 20000 in
theorem ggX7_build_X7_goes : GoodIn wsX7_build wsX7_goes := goodIn_r _ [20, 21, 145, 146, 147, 148, 149, 150, 151, 152, 153, 154, 155, 156, 157, 158, 159, 160, 161, 162, 163, 164, 165, 166, 167, 168, 169, 170, 171, 172, 173, 174, 175, 176, 177, 178, 179, 180, 181, 182, 183, 184, 185, 186, 187, 188, 189, 190, 191, 192] (by decide +kernel) (by decide +kernel)
set_option maxRecDepth 20000 in
theorem gX7_build_X7_goes : GoodIn wsX7_build (wsV RX7 140 RX7 yX7_goes wsX7_goes) := goodIn_app (goodIn_of _ (by decide +kernel)) ggX7_build_X7_goes
set_option maxRecDepth 20000 in
theorem ggX7_build_X7_looks : GoodIn wsX7_build wsX7_looks := goodIn_r _ [25, 26, 27, 28, 29, 30, 31, 32, 33, 9, 34, 1, 35, 36, 6, 37, 38, 39, 40, 5, 3, 41, 42, 43, 44, 45, 46, 47, 48, 49, 50, 51, 52, 53, 54, 55, 56, 57, 58, 59, 60, 61, 62, 63, 64, 65, 66, 2, 67, 68, 69, 70, 71, 72, 73, 74, 75, 76, 77, 78, 79, 80, 81, 82, 83, 84, 85, 86, 87, 88, 89, 90, 91, 92, 93, 94, 95, 96, 97, 98, 99, 100, 101, 102, 103, 104, 105, 106, 107, 108, 109, 110, 111, 112, 113, 114, 115, 116, 117, 118, 119, 120, 121, 122, 123, 124, 125, 126, 4, 127, 128, 129, 130, 131, 132, 133, 134, 135, 136, 137, 138, 139, 140, 141, 142, 143, 144, 145, 146, 147, 148, 149, 150, 151, 152, 153, 154, 155, 156, 157, 158, 159, 160, 161, 162, 163, 164, 165, 166, 167, 168, 169, 170, 171, 172, 173, 174, 175, 176, 177, 178, 179, 180, 181, 182, 183, 184, 185, 186, 187, 188, 189, 190, 191, 192] rfl (by decide +kernel)
set_option maxRecDepth 20000 in
theorem gX7_build_X7_looks : GoodIn wsX7_build (wsV RX7 251 RX7 yX7_looks wsX7_looks) := goodIn_app (goodIn_of _ (by decide +kernel)) ggX7_build_X7_looks
theorem dX7_build_0 : decode cX7_build 0 = .ok (.aload_n 0, 1) := by decide +kernel
theorem dX7_build_1 : decode cX7_build 1 = .ok (.iload_n 1, 1) := by decide +kernel
theorem dX7_build_2 : decode cX7_build 2 = .ok (.iload_n 2, 1) := by decide +kernel
theorem dX7_build_3 : decode cX7_build 3 = .ok (.invokestatic 248, 3) := by decide +kernel
theorem dX7_build_6 : decode cX7_build 6 = .ok (.ifCond .eq 7, 3) := by decide +kernel
theorem dX7_build_9 : decode cX7_build 9 = .ok (.iconst 0, 1) := by decide +kernel
theorem dX7_build_10 : decode cX7_build 10 = .ok (.goto 4, 3) := by decide +kernel
theorem dX7_build_13 : decode cX7_build 13 = .ok (.iconst 1, 1) := by decide +kernel
theorem dX7_build_14 : decode cX7_build 14 = .ok (.invokevirtual 140, 3) := by decide +kernel
theorem dX7_build_17 : decode cX7_build 17 = .ok (.ifCond .ne 5, 3) := by decide +kernel
theorem dX7_build_20 : decode cX7_build 20 = .ok (.iconst 0, 1) := by decide +kernel
theorem dX7_build_21 : decode cX7_build 21 = .ok (.ireturn, 1) := by decide +kernel
theorem dX7_build_22 : decode cX7_build 22 = .ok (.iconst 0, 1) := by decide +kernel
theorem dX7_build_23 : decode cX7_build 23 = .ok (.istore_n 3, 1) := by decide +kernel
theorem dX7_build_24 : decode cX7_build 24 = .ok (.iload_n 3, 1) := by decide +kernel
theorem dX7_build_25 : decode cX7_build 25 = .ok (.iconst 4, 1) := by decide +kernel
theorem dX7_build_26 : decode cX7_build 26 = .ok (.if_icmp .ge 16, 3) := by decide +kernel
theorem dX7_build_29 : decode cX7_build 29 = .ok (.aload_n 0, 1) := by decide +kernel
theorem dX7_build_30 : decode cX7_build 30 = .ok (.getfield 96, 3) := by decide +kernel
theorem dX7_build_33 : decode cX7_build 33 = .ok (.iload_n 3, 1) := by decide +kernel
theorem dX7_build_34 : decode cX7_build 34 = .ok (.iconst 0, 1) := by decide +kernel
theorem dX7_build_35 : decode cX7_build 35 = .ok (.iastore, 1) := by decide +kernel
theorem dX7_build_36 : decode cX7_build 36 = .ok (.iinc 3 1, 3) := by decide +kernel
theorem dX7_build_39 : decode cX7_build 39 = .ok (.goto (-15), 3) := by decide +kernel
theorem dX7_build_42 : decode cX7_build 42 = .ok (.iconst 0, 1) := by decide +kernel
theorem dX7_build_43 : decode cX7_build 43 = .ok (.istore_n 3, 1) := by decide +kernel
theorem dX7_build_44 : decode cX7_build 44 = .ok (.iload_n 3, 1) := by decide +kernel
theorem dX7_build_45 : decode cX7_build 45 = .ok (.bipush 32, 2) := by decide +kernel
theorem dX7_build_47 : decode cX7_build 47 = .ok (.if_icmp .ge 30, 3) := by decide +kernel
theorem dX7_build_50 : decode cX7_build 50 = .ok (.aload_n 0, 1) := by decide +kernel
theorem dX7_build_51 : decode cX7_build 51 = .ok (.getfield 90, 3) := by decide +kernel
theorem dX7_build_54 : decode cX7_build 54 = .ok (.iload_n 3, 1) := by decide +kernel
theorem dX7_build_55 : decode cX7_build 55 = .ok (.iconst 0, 1) := by decide +kernel
theorem dX7_build_56 : decode cX7_build 56 = .ok (.iastore, 1) := by decide +kernel
theorem dX7_build_57 : decode cX7_build 57 = .ok (.aload_n 0, 1) := by decide +kernel
theorem dX7_build_58 : decode cX7_build 58 = .ok (.getfield 93, 3) := by decide +kernel
theorem dX7_build_61 : decode cX7_build 61 = .ok (.iload_n 3, 1) := by decide +kernel
theorem dX7_build_62 : decode cX7_build 62 = .ok (.iconst 0, 1) := by decide +kernel
theorem dX7_build_63 : decode cX7_build 63 = .ok (.iastore, 1) := by decide +kernel
theorem dX7_build_64 : decode cX7_build 64 = .ok (.aload_n 0, 1) := by decide +kernel
theorem dX7_build_65 : decode cX7_build 65 = .ok (.getfield 72, 3) := by decide +kernel
theorem dX7_build_68 : decode cX7_build 68 = .ok (.iload_n 3, 1) := by decide +kernel
theorem dX7_build_69 : decode cX7_build 69 = .ok (.iconst 0, 1) := by decide +kernel
theorem dX7_build_70 : decode cX7_build 70 = .ok (.bastore, 1) := by decide +kernel
theorem dX7_build_71 : decode cX7_build 71 = .ok (.iinc 3 1, 3) := by decide +kernel
theorem dX7_build_74 : decode cX7_build 74 = .ok (.goto (-30), 3) := by decide +kernel
theorem dX7_build_77 : decode cX7_build 77 = .ok (.aload_n 0, 1) := by decide +kernel
theorem dX7_build_78 : decode cX7_build 78 = .ok (.iconst 0, 1) := by decide +kernel
theorem dX7_build_79 : decode cX7_build 79 = .ok (.putfield 172, 3) := by decide +kernel
theorem dX7_build_82 : decode cX7_build 82 = .ok (.aload_n 0, 1) := by decide +kernel
theorem dX7_build_83 : decode cX7_build 83 = .ok (.iconst 2, 1) := by decide +kernel
theorem dX7_build_84 : decode cX7_build 84 = .ok (.iload_n 1, 1) := by decide +kernel
theorem dX7_build_85 : decode cX7_build 85 = .ok (.imul, 1) := by decide +kernel
theorem dX7_build_86 : decode cX7_build 86 = .ok (.iload_n 2, 1) := by decide +kernel
theorem dX7_build_87 : decode cX7_build 87 = .ok (.iadd, 1) := by decide +kernel
theorem dX7_build_88 : decode cX7_build 88 = .ok (.invokevirtual 251, 3) := by decide +kernel
theorem dX7_build_91 : decode cX7_build 91 = .ok (.istore_n 3, 1) := by decide +kernel
theorem dX7_build_92 : decode cX7_build 92 = .ok (.iconst 0, 1) := by decide +kernel
theorem dX7_build_93 : decode cX7_build 93 = .ok (.istore 4, 2) := by decide +kernel
theorem dX7_build_95 : decode cX7_build 95 = .ok (.iload 4, 2) := by decide +kernel
theorem dX7_build_97 : decode cX7_build 97 = .ok (.bipush 32, 2) := by decide +kernel
theorem dX7_build_99 : decode cX7_build 99 = .ok (.if_icmp .ge 41, 3) := by decide +kernel
theorem dX7_build_102 : decode cX7_build 102 = .ok (.aload_n 0, 1) := by decide +kernel
theorem dX7_build_103 : decode cX7_build 103 = .ok (.getfield 44, 3) := by decide +kernel
theorem dX7_build_106 : decode cX7_build 106 = .ok (.iload 4, 2) := by decide +kernel
theorem dX7_build_108 : decode cX7_build 108 = .ok (.aload_n 0, 1) := by decide +kernel
theorem dX7_build_109 : decode cX7_build 109 = .ok (.getfield 44, 3) := by decide +kernel
theorem dX7_build_112 : decode cX7_build 112 = .ok (.iload 4, 2) := by decide +kernel
theorem dX7_build_114 : decode cX7_build 114 = .ok (.baload, 1) := by decide +kernel
theorem dX7_build_115 : decode cX7_build 115 = .ok (.ifCond .eq 17, 3) := by decide +kernel
theorem dX7_build_118 : decode cX7_build 118 = .ok (.aload_n 0, 1) := by decide +kernel
theorem dX7_build_119 : decode cX7_build 119 = .ok (.getfield 72, 3) := by decide +kernel
theorem dX7_build_122 : decode cX7_build 122 = .ok (.iload 4, 2) := by decide +kernel
theorem dX7_build_124 : decode cX7_build 124 = .ok (.baload, 1) := by decide +kernel
theorem dX7_build_125 : decode cX7_build 125 = .ok (.ifCond .ne 7, 3) := by decide +kernel
theorem dX7_build_128 : decode cX7_build 128 = .ok (.iconst 1, 1) := by decide +kernel
theorem dX7_build_129 : decode cX7_build 129 = .ok (.goto 4, 3) := by decide +kernel
theorem dX7_build_132 : decode cX7_build 132 = .ok (.iconst 0, 1) := by decide +kernel
theorem dX7_build_133 : decode cX7_build 133 = .ok (.bastore, 1) := by decide +kernel
theorem dX7_build_134 : decode cX7_build 134 = .ok (.iinc 4 1, 3) := by decide +kernel
theorem dX7_build_137 : decode cX7_build 137 = .ok (.goto (-42), 3) := by decide +kernel
theorem dX7_build_140 : decode cX7_build 140 = .ok (.iload_n 3, 1) := by decide +kernel
theorem dX7_build_141 : decode cX7_build 141 = .ok (.ireturn, 1) := by decide +kernel
set_option maxRecDepth 20000 in
theorem ggX7_looksPlain_X7_looks : GoodIn wsX7_looksPlain wsX7_looks := goodIn_r _ [12, 13, 14, 15, 16, 17, 18, 19, 20, 11, 21, 1, 22, 23, 24, 25, 26, 27, 28, 7, 6, 29, 30, 31, 32, 33, 34, 35, 36, 37, 38, 39, 40, 41, 42, 43, 44, 45, 46, 47, 48, 49, 50, 51, 52, 53, 54, 4, 55, 56, 57, 58, 59, 60, 61, 62, 63, 64, 65, 66, 67, 68, 69, 70, 2, 71, 72, 73, 74, 75, 76, 77, 78, 79, 80, 81, 82, 83, 84, 85, 86, 87, 88, 89, 90, 91, 92, 93, 94, 95, 96, 97, 98, 99, 100, 101, 102, 103, 104, 105, 106, 107, 108, 109, 110, 111, 112, 113, 114, 115, 116, 117, 118, 119, 120, 121, 122, 123, 124, 125, 126, 127, 128, 129, 130, 131, 132, 133, 134, 135, 136, 137, 138, 139, 140, 141, 142, 143, 144, 145, 146, 147, 148, 149, 150, 151, 152, 153, 154, 155, 156, 157, 158, 159, 160, 161, 162, 163, 164, 165, 166, 167, 168, 169, 170, 171, 172, 173, 174, 175, 176, 177, 178, 179, 180] rfl (by decide +kernel)
set_option maxRecDepth 20000 in
theorem gX7_looksPlain_X7_looks : GoodIn wsX7_looksPlain (wsV RX7 251 RX7 yX7_looks wsX7_looks) := goodIn_app (goodIn_of _ (by decide +kernel)) ggX7_looksPlain_X7_looks
theorem dX7_looksPlain_0 : decode cX7_looksPlain 0 = .ok (.aload_n 0, 1) := by decide +kernel
theorem dX7_looksPlain_1 : decode cX7_looksPlain 1 = .ok (.getfield 96, 3) := by decide +kernel
theorem dX7_looksPlain_4 : decode cX7_looksPlain 4 = .ok (.iconst 3, 1) := by decide +kernel
theorem dX7_looksPlain_5 : decode cX7_looksPlain 5 = .ok (.iaload, 1) := by decide +kernel
theorem dX7_looksPlain_6 : decode cX7_looksPlain 6 = .ok (.istore_n 2, 1) := by decide +kernel
theorem dX7_looksPlain_7 : decode cX7_looksPlain 7 = .ok (.aload_n 0, 1) := by decide +kernel
theorem dX7_looksPlain_8 : decode cX7_looksPlain 8 = .ok (.getfield 209, 3) := by decide +kernel
theorem dX7_looksPlain_11 : decode cX7_looksPlain 11 = .ok (.istore_n 3, 1) := by decide +kernel
theorem dX7_looksPlain_12 : decode cX7_looksPlain 12 = .ok (.iconst 0, 1) := by decide +kernel
theorem dX7_looksPlain_13 : decode cX7_looksPlain 13 = .ok (.istore 4, 2) := by decide +kernel
theorem dX7_looksPlain_15 : decode cX7_looksPlain 15 = .ok (.iload 4, 2) := by decide +kernel
theorem dX7_looksPlain_17 : decode cX7_looksPlain 17 = .ok (.bipush 32, 2) := by decide +kernel
theorem dX7_looksPlain_19 : decode cX7_looksPlain 19 = .ok (.if_icmp .ge 37, 3) := by decide +kernel
theorem dX7_looksPlain_22 : decode cX7_looksPlain 22 = .ok (.aload_n 0, 1) := by decide +kernel
theorem dX7_looksPlain_23 : decode cX7_looksPlain 23 = .ok (.getfield 126, 3) := by decide +kernel
theorem dX7_looksPlain_26 : decode cX7_looksPlain 26 = .ok (.iload 4, 2) := by decide +kernel
theorem dX7_looksPlain_28 : decode cX7_looksPlain 28 = .ok (.aload_n 0, 1) := by decide +kernel
theorem dX7_looksPlain_29 : decode cX7_looksPlain 29 = .ok (.getfield 90, 3) := by decide +kernel
theorem dX7_looksPlain_32 : decode cX7_looksPlain 32 = .ok (.iload 4, 2) := by decide +kernel
theorem dX7_looksPlain_34 : decode cX7_looksPlain 34 = .ok (.iaload, 1) := by decide +kernel
theorem dX7_looksPlain_35 : decode cX7_looksPlain 35 = .ok (.iastore, 1) := by decide +kernel
theorem dX7_looksPlain_36 : decode cX7_looksPlain 36 = .ok (.aload_n 0, 1) := by decide +kernel
theorem dX7_looksPlain_37 : decode cX7_looksPlain 37 = .ok (.getfield 129, 3) := by decide +kernel
theorem dX7_looksPlain_40 : decode cX7_looksPlain 40 = .ok (.iload 4, 2) := by decide +kernel
theorem dX7_looksPlain_42 : decode cX7_looksPlain 42 = .ok (.aload_n 0, 1) := by decide +kernel
theorem dX7_looksPlain_43 : decode cX7_looksPlain 43 = .ok (.getfield 93, 3) := by decide +kernel
theorem dX7_looksPlain_46 : decode cX7_looksPlain 46 = .ok (.iload 4, 2) := by decide +kernel
theorem dX7_looksPlain_48 : decode cX7_looksPlain 48 = .ok (.iaload, 1) := by decide +kernel
theorem dX7_looksPlain_49 : decode cX7_looksPlain 49 = .ok (.iastore, 1) := by decide +kernel
theorem dX7_looksPlain_50 : decode cX7_looksPlain 50 = .ok (.iinc 4 1, 3) := by decide +kernel
theorem dX7_looksPlain_53 : decode cX7_looksPlain 53 = .ok (.goto (-38), 3) := by decide +kernel
theorem dX7_looksPlain_56 : decode cX7_looksPlain 56 = .ok (.aload_n 0, 1) := by decide +kernel
theorem dX7_looksPlain_57 : decode cX7_looksPlain 57 = .ok (.iconst 1, 1) := by decide +kernel
theorem dX7_looksPlain_58 : decode cX7_looksPlain 58 = .ok (.putfield 172, 3) := by decide +kernel
theorem dX7_looksPlain_61 : decode cX7_looksPlain 61 = .ok (.aload_n 0, 1) := by decide +kernel
theorem dX7_looksPlain_62 : decode cX7_looksPlain 62 = .ok (.iload_n 1, 1) := by decide +kernel
theorem dX7_looksPlain_63 : decode cX7_looksPlain 63 = .ok (.invokevirtual 251, 3) := by decide +kernel
theorem dX7_looksPlain_66 : decode cX7_looksPlain 66 = .ok (.istore 4, 2) := by decide +kernel
theorem dX7_looksPlain_68 : decode cX7_looksPlain 68 = .ok (.aload_n 0, 1) := by decide +kernel
theorem dX7_looksPlain_69 : decode cX7_looksPlain 69 = .ok (.iconst 0, 1) := by decide +kernel
theorem dX7_looksPlain_70 : decode cX7_looksPlain 70 = .ok (.putfield 172, 3) := by decide +kernel
theorem dX7_looksPlain_73 : decode cX7_looksPlain 73 = .ok (.aload_n 0, 1) := by decide +kernel
theorem dX7_looksPlain_74 : decode cX7_looksPlain 74 = .ok (.getfield 96, 3) := by decide +kernel
theorem dX7_looksPlain_77 : decode cX7_looksPlain 77 = .ok (.iconst 3, 1) := by decide +kernel
theorem dX7_looksPlain_78 : decode cX7_looksPlain 78 = .ok (.iload_n 2, 1) := by decide +kernel
theorem dX7_looksPlain_79 : decode cX7_looksPlain 79 = .ok (.iastore, 1) := by decide +kernel
theorem dX7_looksPlain_80 : decode cX7_looksPlain 80 = .ok (.aload_n 0, 1) := by decide +kernel
theorem dX7_looksPlain_81 : decode cX7_looksPlain 81 = .ok (.iload_n 3, 1) := by decide +kernel
theorem dX7_looksPlain_82 : decode cX7_looksPlain 82 = .ok (.putfield 209, 3) := by decide +kernel
theorem dX7_looksPlain_85 : decode cX7_looksPlain 85 = .ok (.iconst 0, 1) := by decide +kernel
theorem dX7_looksPlain_86 : decode cX7_looksPlain 86 = .ok (.istore 5, 2) := by decide +kernel
theorem dX7_looksPlain_88 : decode cX7_looksPlain 88 = .ok (.iload 5, 2) := by decide +kernel
theorem dX7_looksPlain_90 : decode cX7_looksPlain 90 = .ok (.bipush 32, 2) := by decide +kernel
theorem dX7_looksPlain_92 : decode cX7_looksPlain 92 = .ok (.if_icmp .ge 37, 3) := by decide +kernel
theorem dX7_looksPlain_95 : decode cX7_looksPlain 95 = .ok (.aload_n 0, 1) := by decide +kernel
theorem dX7_looksPlain_96 : decode cX7_looksPlain 96 = .ok (.getfield 90, 3) := by decide +kernel
theorem dX7_looksPlain_99 : decode cX7_looksPlain 99 = .ok (.iload 5, 2) := by decide +kernel
theorem dX7_looksPlain_101 : decode cX7_looksPlain 101 = .ok (.aload_n 0, 1) := by decide +kernel
theorem dX7_looksPlain_102 : decode cX7_looksPlain 102 = .ok (.getfield 126, 3) := by decide +kernel
theorem dX7_looksPlain_105 : decode cX7_looksPlain 105 = .ok (.iload 5, 2) := by decide +kernel
theorem dX7_looksPlain_107 : decode cX7_looksPlain 107 = .ok (.iaload, 1) := by decide +kernel
theorem dX7_looksPlain_108 : decode cX7_looksPlain 108 = .ok (.iastore, 1) := by decide +kernel
theorem dX7_looksPlain_109 : decode cX7_looksPlain 109 = .ok (.aload_n 0, 1) := by decide +kernel
theorem dX7_looksPlain_110 : decode cX7_looksPlain 110 = .ok (.getfield 93, 3) := by decide +kernel
theorem dX7_looksPlain_113 : decode cX7_looksPlain 113 = .ok (.iload 5, 2) := by decide +kernel
theorem dX7_looksPlain_115 : decode cX7_looksPlain 115 = .ok (.aload_n 0, 1) := by decide +kernel
theorem dX7_looksPlain_116 : decode cX7_looksPlain 116 = .ok (.getfield 129, 3) := by decide +kernel
theorem dX7_looksPlain_119 : decode cX7_looksPlain 119 = .ok (.iload 5, 2) := by decide +kernel
theorem dX7_looksPlain_121 : decode cX7_looksPlain 121 = .ok (.iaload, 1) := by decide +kernel
theorem dX7_looksPlain_122 : decode cX7_looksPlain 122 = .ok (.iastore, 1) := by decide +kernel
theorem dX7_looksPlain_123 : decode cX7_looksPlain 123 = .ok (.iinc 5 1, 3) := by decide +kernel
theorem dX7_looksPlain_126 : decode cX7_looksPlain 126 = .ok (.goto (-38), 3) := by decide +kernel
theorem dX7_looksPlain_129 : decode cX7_looksPlain 129 = .ok (.iload 4, 2) := by decide +kernel
theorem dX7_looksPlain_131 : decode cX7_looksPlain 131 = .ok (.ireturn, 1) := by decide +kernel
set_option maxRecDepth 20000 in
theorem ggX7_plain_X7_isNode : GoodIn wsX7_plain wsX7_isNode := goodIn_r _ [4, 5, 6, 3, 7, 8, 9, 10] (by decide +kernel) (by decide +kernel)
set_option maxRecDepth 20000 in
theorem gX7_plain_X7_isNode : GoodIn wsX7_plain (va_wsS RX7 248 yX7_isNode wsX7_isNode) := goodIn_app (goodIn_of _ (by decide +kernel)) ggX7_plain_X7_isNode
set_option maxRecDepth 20000 in
theorem ggX7_plain_X7_goes : GoodIn wsX7_plain wsX7_goes := goodIn_r _ [14, 15, 151, 152, 153, 154, 155, 156, 157, 158, 159, 160, 161, 162, 163, 164, 165, 166, 167, 168, 169, 170, 171, 172, 173, 174, 175, 176, 177, 178, 179, 180, 181, 182, 183, 184, 185, 186, 187, 188, 189, 190, 191, 192, 193, 194, 195, 196, 197, 198] (by decide +kernel) (by decide +kernel)
set_option maxRecDepth 20000 in
theorem gX7_plain_X7_goes : GoodIn wsX7_plain (wsV RX7 140 RX7 yX7_goes wsX7_goes) := goodIn_app (goodIn_of _ (by decide +kernel)) ggX7_plain_X7_goes
set_option maxRecDepth 20000 in
theorem ggX7_plain_X7_looksPlain : GoodIn wsX7_plain wsX7_looksPlain := goodIn_r _ [19, 20, 21, 22, 23, 24, 25, 26, 27, 28, 29, 3, 30, 31, 32, 33, 34, 35, 36, 37, 38, 39, 40, 41, 42, 43, 44, 45, 46, 47, 48, 49, 50, 51, 52, 53, 54, 55, 56, 57, 58, 59, 60, 61, 62, 63, 64, 65, 66, 67, 68, 69, 70, 71, 72, 73, 74, 75, 76, 77, 78, 79, 80, 81, 82, 83, 84, 85, 86, 87, 88, 89, 90, 91, 92, 93, 94, 95, 96, 97, 98, 99, 100, 101, 102, 103, 104, 105, 106, 107, 108, 109, 110, 111, 112, 113, 114, 115, 116, 117, 118, 119, 120, 121, 122, 123, 124, 125, 126, 127, 128, 129, 130, 131, 132, 133, 134, 135, 136, 137, 138, 139, 140, 141, 142, 143, 144, 145, 146, 147, 148, 149, 150, 151, 152, 153, 154, 155, 156, 157, 158, 159, 160, 161, 162, 163, 164, 165, 166, 167, 168, 169, 170, 171, 172, 173, 174, 175, 176, 177, 178, 179, 180, 181, 182, 183, 184, 185, 186, 187, 188, 189, 190, 191, 192, 193, 194, 195, 196, 197, 198] rfl (by decide +kernel)
set_option maxRecDepth 20000 in
theorem gX7_plain_X7_looksPlain : GoodIn wsX7_plain (wsV RX7 254 RX7 yX7_looksPlain wsX7_looksPlain) := goodIn_app (goodIn_of _ (by decide +kernel)) ggX7_plain_X7_looksPlain
theorem dX7_plain_0 : decode cX7_plain 0 = .ok (.aload_n 0, 1) := by decide +kernel
theorem dX7_plain_1 : decode cX7_plain 1 = .ok (.iload_n 1, 1) := by decide +kernel
theorem dX7_plain_2 : decode cX7_plain 2 = .ok (.iload_n 2, 1) := by decide +kernel
theorem dX7_plain_3 : decode cX7_plain 3 = .ok (.invokestatic 248, 3) := by decide +kernel
theorem dX7_plain_6 : decode cX7_plain 6 = .ok (.ifCond .eq 7, 3) := by decide +kernel
theorem dX7_plain_9 : decode cX7_plain 9 = .ok (.iconst 0, 1) := by decide +kernel
theorem dX7_plain_10 : decode cX7_plain 10 = .ok (.goto 4, 3) := by decide +kernel
theorem dX7_plain_13 : decode cX7_plain 13 = .ok (.iconst 1, 1) := by decide +kernel
theorem dX7_plain_14 : decode cX7_plain 14 = .ok (.invokevirtual 140, 3) := by decide +kernel
theorem dX7_plain_17 : decode cX7_plain 17 = .ok (.ifCond .eq 15, 3) := by decide +kernel
theorem dX7_plain_20 : decode cX7_plain 20 = .ok (.aload_n 0, 1) := by decide +kernel
theorem dX7_plain_21 : decode cX7_plain 21 = .ok (.iconst 2, 1) := by decide +kernel
theorem dX7_plain_22 : decode cX7_plain 22 = .ok (.iload_n 1, 1) := by decide +kernel
theorem dX7_plain_23 : decode cX7_plain 23 = .ok (.imul, 1) := by decide +kernel
theorem dX7_plain_24 : decode cX7_plain 24 = .ok (.iload_n 2, 1) := by decide +kernel
theorem dX7_plain_25 : decode cX7_plain 25 = .ok (.iadd, 1) := by decide +kernel
theorem dX7_plain_26 : decode cX7_plain 26 = .ok (.invokevirtual 254, 3) := by decide +kernel
theorem dX7_plain_29 : decode cX7_plain 29 = .ok (.goto 4, 3) := by decide +kernel
theorem dX7_plain_32 : decode cX7_plain 32 = .ok (.iconst 0, 1) := by decide +kernel
theorem dX7_plain_33 : decode cX7_plain 33 = .ok (.ireturn, 1) := by decide +kernel
set_option maxRecDepth 20000 in
theorem ggX7_done_X7_isNode : GoodIn wsX7_done wsX7_isNode := goodIn_r _ [5, 6, 7, 4, 8, 9, 10, 11] (by decide +kernel) (by decide +kernel)
set_option maxRecDepth 20000 in
theorem gX7_done_X7_isNode : GoodIn wsX7_done (va_wsS RX7 248 yX7_isNode wsX7_isNode) := goodIn_app (goodIn_of _ (by decide +kernel)) ggX7_done_X7_isNode
set_option maxRecDepth 20000 in
theorem ggX7_done_X7_goes : GoodIn wsX7_done wsX7_goes := goodIn_r _ [15, 16, 17, 18, 19, 20, 21, 22, 23, 24, 25, 26, 27, 28, 29, 30, 31, 32, 33, 34, 35, 36, 37, 38, 39, 40, 41, 42, 43, 44, 45, 46, 47, 48, 49, 50, 51, 52, 53, 54, 55, 56, 57, 58, 59, 60, 61, 62, 63, 64] (by decide +kernel) (by decide +kernel)
set_option maxRecDepth 20000 in
theorem gX7_done_X7_goes : GoodIn wsX7_done (wsV RX7 140 RX7 yX7_goes wsX7_goes) := goodIn_app (goodIn_of _ (by decide +kernel)) ggX7_done_X7_goes
theorem dX7_done_0 : decode cX7_done 0 = .ok (.aload_n 0, 1) := by decide +kernel
theorem dX7_done_1 : decode cX7_done 1 = .ok (.iload_n 1, 1) := by decide +kernel
theorem dX7_done_2 : decode cX7_done 2 = .ok (.iload_n 2, 1) := by decide +kernel
theorem dX7_done_3 : decode cX7_done 3 = .ok (.invokestatic 248, 3) := by decide +kernel
theorem dX7_done_6 : decode cX7_done 6 = .ok (.ifCond .eq 7, 3) := by decide +kernel
theorem dX7_done_9 : decode cX7_done 9 = .ok (.iconst 0, 1) := by decide +kernel
theorem dX7_done_10 : decode cX7_done 10 = .ok (.goto 4, 3) := by decide +kernel
theorem dX7_done_13 : decode cX7_done 13 = .ok (.iconst 1, 1) := by decide +kernel
theorem dX7_done_14 : decode cX7_done 14 = .ok (.invokevirtual 140, 3) := by decide +kernel
theorem dX7_done_17 : decode cX7_done 17 = .ok (.ifCond .eq 16, 3) := by decide +kernel
theorem dX7_done_20 : decode cX7_done 20 = .ok (.aload_n 0, 1) := by decide +kernel
theorem dX7_done_21 : decode cX7_done 21 = .ok (.getfield 90, 3) := by decide +kernel
theorem dX7_done_24 : decode cX7_done 24 = .ok (.iconst 2, 1) := by decide +kernel
theorem dX7_done_25 : decode cX7_done 25 = .ok (.iload_n 1, 1) := by decide +kernel
theorem dX7_done_26 : decode cX7_done 26 = .ok (.imul, 1) := by decide +kernel
theorem dX7_done_27 : decode cX7_done 27 = .ok (.iload_n 2, 1) := by decide +kernel
theorem dX7_done_28 : decode cX7_done 28 = .ok (.iadd, 1) := by decide +kernel
theorem dX7_done_29 : decode cX7_done 29 = .ok (.iaload, 1) := by decide +kernel
theorem dX7_done_30 : decode cX7_done 30 = .ok (.goto 4, 3) := by decide +kernel
theorem dX7_done_33 : decode cX7_done 33 = .ok (.iconst 0, 1) := by decide +kernel
theorem dX7_done_34 : decode cX7_done 34 = .ok (.ireturn, 1) := by decide +kernel
set_option maxRecDepth 20000 in
theorem ggX7_why_X7_isNode : GoodIn wsX7_why wsX7_isNode := goodIn_r _ [5, 6, 7, 4, 8, 9, 10, 11] (by decide +kernel) (by decide +kernel)
set_option maxRecDepth 20000 in
theorem gX7_why_X7_isNode : GoodIn wsX7_why (va_wsS RX7 248 yX7_isNode wsX7_isNode) := goodIn_app (goodIn_of _ (by decide +kernel)) ggX7_why_X7_isNode
set_option maxRecDepth 20000 in
theorem ggX7_why_X7_goes : GoodIn wsX7_why wsX7_goes := goodIn_r _ [15, 16, 17, 18, 19, 20, 21, 22, 23, 24, 25, 26, 27, 28, 29, 30, 31, 32, 33, 34, 35, 36, 37, 38, 39, 40, 41, 42, 43, 44, 45, 46, 47, 48, 49, 50, 51, 52, 53, 54, 55, 56, 57, 58, 59, 60, 61, 62, 63, 64] (by decide +kernel) (by decide +kernel)
set_option maxRecDepth 20000 in
theorem gX7_why_X7_goes : GoodIn wsX7_why (wsV RX7 140 RX7 yX7_goes wsX7_goes) := goodIn_app (goodIn_of _ (by decide +kernel)) ggX7_why_X7_goes
theorem dX7_why_0 : decode cX7_why 0 = .ok (.aload_n 0, 1) := by decide +kernel
theorem dX7_why_1 : decode cX7_why 1 = .ok (.iload_n 1, 1) := by decide +kernel
theorem dX7_why_2 : decode cX7_why 2 = .ok (.iload_n 2, 1) := by decide +kernel
theorem dX7_why_3 : decode cX7_why 3 = .ok (.invokestatic 248, 3) := by decide +kernel
theorem dX7_why_6 : decode cX7_why 6 = .ok (.ifCond .eq 7, 3) := by decide +kernel
theorem dX7_why_9 : decode cX7_why 9 = .ok (.iconst 0, 1) := by decide +kernel
theorem dX7_why_10 : decode cX7_why 10 = .ok (.goto 4, 3) := by decide +kernel
theorem dX7_why_13 : decode cX7_why 13 = .ok (.iconst 1, 1) := by decide +kernel
theorem dX7_why_14 : decode cX7_why 14 = .ok (.invokevirtual 140, 3) := by decide +kernel
theorem dX7_why_17 : decode cX7_why 17 = .ok (.ifCond .eq 16, 3) := by decide +kernel
theorem dX7_why_20 : decode cX7_why 20 = .ok (.aload_n 0, 1) := by decide +kernel
theorem dX7_why_21 : decode cX7_why 21 = .ok (.getfield 93, 3) := by decide +kernel
theorem dX7_why_24 : decode cX7_why 24 = .ok (.iconst 2, 1) := by decide +kernel
theorem dX7_why_25 : decode cX7_why 25 = .ok (.iload_n 1, 1) := by decide +kernel
theorem dX7_why_26 : decode cX7_why 26 = .ok (.imul, 1) := by decide +kernel
theorem dX7_why_27 : decode cX7_why 27 = .ok (.iload_n 2, 1) := by decide +kernel
theorem dX7_why_28 : decode cX7_why 28 = .ok (.iadd, 1) := by decide +kernel
theorem dX7_why_29 : decode cX7_why 29 = .ok (.iaload, 1) := by decide +kernel
theorem dX7_why_30 : decode cX7_why 30 = .ok (.goto 4, 3) := by decide +kernel
theorem dX7_why_33 : decode cX7_why 33 = .ok (.iconst 0, 1) := by decide +kernel
theorem dX7_why_34 : decode cX7_why 34 = .ok (.ireturn, 1) := by decide +kernel
set_option maxRecDepth 20000 in
theorem ggX7_counts_X7_isIn : GoodIn wsX7_counts wsX7_isIn := goodIn_r _ [5] (by decide +kernel) (by decide +kernel)
set_option maxRecDepth 20000 in
theorem gX7_counts_X7_isIn : GoodIn wsX7_counts (va_wsS RX7 136 yX7_isIn wsX7_isIn) := goodIn_app (goodIn_of _ (by decide +kernel)) ggX7_counts_X7_isIn
set_option maxRecDepth 20000 in
theorem ggX7_counts_X7_goes : GoodIn wsX7_counts wsX7_goes := goodIn_r _ [9, 10, 11, 12, 13, 14, 15, 16, 17, 18, 19, 20, 21, 22, 23, 24, 25, 26, 27, 28, 29, 30, 31, 32, 33, 34, 35, 36, 37, 38, 39, 40, 41, 42, 43, 44, 45, 46, 47, 48, 49, 50, 51, 52, 53, 54, 55, 56, 57, 58] (by decide +kernel) (by decide +kernel)
set_option maxRecDepth 20000 in
theorem gX7_counts_X7_goes : GoodIn wsX7_counts (wsV RX7 140 RX7 yX7_goes wsX7_goes) := goodIn_app (goodIn_of _ (by decide +kernel)) ggX7_counts_X7_goes
theorem dX7_counts_0 : decode cX7_counts 0 = .ok (.aload_n 0, 1) := by decide +kernel
theorem dX7_counts_1 : decode cX7_counts 1 = .ok (.iload_n 1, 1) := by decide +kernel
theorem dX7_counts_2 : decode cX7_counts 2 = .ok (.iconst 0, 1) := by decide +kernel
theorem dX7_counts_3 : decode cX7_counts 3 = .ok (.iconst 3, 1) := by decide +kernel
theorem dX7_counts_4 : decode cX7_counts 4 = .ok (.invokestatic 136, 3) := by decide +kernel
theorem dX7_counts_7 : decode cX7_counts 7 = .ok (.ifCond .eq 7, 3) := by decide +kernel
theorem dX7_counts_10 : decode cX7_counts 10 = .ok (.iconst 0, 1) := by decide +kernel
theorem dX7_counts_11 : decode cX7_counts 11 = .ok (.goto 4, 3) := by decide +kernel
theorem dX7_counts_14 : decode cX7_counts 14 = .ok (.iconst 1, 1) := by decide +kernel
theorem dX7_counts_15 : decode cX7_counts 15 = .ok (.invokevirtual 140, 3) := by decide +kernel
theorem dX7_counts_18 : decode cX7_counts 18 = .ok (.ifCond .eq 12, 3) := by decide +kernel
theorem dX7_counts_21 : decode cX7_counts 21 = .ok (.aload_n 0, 1) := by decide +kernel
theorem dX7_counts_22 : decode cX7_counts 22 = .ok (.getfield 96, 3) := by decide +kernel
theorem dX7_counts_25 : decode cX7_counts 25 = .ok (.iload_n 1, 1) := by decide +kernel
theorem dX7_counts_26 : decode cX7_counts 26 = .ok (.iaload, 1) := by decide +kernel
theorem dX7_counts_27 : decode cX7_counts 27 = .ok (.goto 4, 3) := by decide +kernel
theorem dX7_counts_30 : decode cX7_counts 30 = .ok (.iconst 0, 1) := by decide +kernel
theorem dX7_counts_31 : decode cX7_counts 31 = .ok (.ireturn, 1) := by decide +kernel
theorem dX7_entries_0 : decode cX7_entries 0 = .ok (.aload_n 0, 1) := by decide +kernel
theorem dX7_entries_1 : decode cX7_entries 1 = .ok (.iconst 0, 1) := by decide +kernel
theorem dX7_entries_2 : decode cX7_entries 2 = .ok (.putfield 132, 3) := by decide +kernel
theorem dX7_entries_5 : decode cX7_entries 5 = .ok (.aload_n 0, 1) := by decide +kernel
theorem dX7_entries_6 : decode cX7_entries 6 = .ok (.getfield 154, 3) := by decide +kernel
theorem dX7_entries_9 : decode cX7_entries 9 = .ok (.ireturn, 1) := by decide +kernel
theorem dX7_away_0 : decode cX7_away 0 = .ok (.aload_n 0, 1) := by decide +kernel
theorem dX7_away_1 : decode cX7_away 1 = .ok (.iconst 0, 1) := by decide +kernel
theorem dX7_away_2 : decode cX7_away 2 = .ok (.putfield 132, 3) := by decide +kernel
theorem dX7_away_5 : decode cX7_away 5 = .ok (.iconst 0, 1) := by decide +kernel
theorem dX7_away_6 : decode cX7_away 6 = .ok (.istore_n 1, 1) := by decide +kernel
theorem dX7_away_7 : decode cX7_away 7 = .ok (.iconst 0, 1) := by decide +kernel
theorem dX7_away_8 : decode cX7_away 8 = .ok (.istore_n 2, 1) := by decide +kernel
theorem dX7_away_9 : decode cX7_away 9 = .ok (.iload_n 2, 1) := by decide +kernel
theorem dX7_away_10 : decode cX7_away 10 = .ok (.iconst 3, 1) := by decide +kernel
theorem dX7_away_11 : decode cX7_away 11 = .ok (.if_icmp .ge 28, 3) := by decide +kernel
theorem dX7_away_14 : decode cX7_away 14 = .ok (.iload_n 1, 1) := by decide +kernel
theorem dX7_away_15 : decode cX7_away 15 = .ok (.aload_n 0, 1) := by decide +kernel
theorem dX7_away_16 : decode cX7_away 16 = .ok (.getfield 41, 3) := by decide +kernel
theorem dX7_away_19 : decode cX7_away 19 = .ok (.iload_n 2, 1) := by decide +kernel
theorem dX7_away_20 : decode cX7_away 20 = .ok (.baload, 1) := by decide +kernel
theorem dX7_away_21 : decode cX7_away 21 = .ok (.ifCond .eq 9, 3) := by decide +kernel
theorem dX7_away_24 : decode cX7_away 24 = .ok (.iconst 1, 1) := by decide +kernel
theorem dX7_away_25 : decode cX7_away 25 = .ok (.iload_n 2, 1) := by decide +kernel
theorem dX7_away_26 : decode cX7_away 26 = .ok (.ishl, 1) := by decide +kernel
theorem dX7_away_27 : decode cX7_away 27 = .ok (.goto 4, 3) := by decide +kernel
theorem dX7_away_30 : decode cX7_away 30 = .ok (.iconst 0, 1) := by decide +kernel
theorem dX7_away_31 : decode cX7_away 31 = .ok (.ior, 1) := by decide +kernel
theorem dX7_away_32 : decode cX7_away 32 = .ok (.istore_n 1, 1) := by decide +kernel
theorem dX7_away_33 : decode cX7_away 33 = .ok (.iinc 2 1, 3) := by decide +kernel
theorem dX7_away_36 : decode cX7_away 36 = .ok (.goto (-27), 3) := by decide +kernel
theorem dX7_away_39 : decode cX7_away 39 = .ok (.iload_n 1, 1) := by decide +kernel
theorem dX7_away_40 : decode cX7_away 40 = .ok (.ireturn, 1) := by decide +kernel
theorem dX7_leaks_0 : decode cX7_leaks 0 = .ok (.aload_n 0, 1) := by decide +kernel
theorem dX7_leaks_1 : decode cX7_leaks 1 = .ok (.iconst 0, 1) := by decide +kernel
theorem dX7_leaks_2 : decode cX7_leaks 2 = .ok (.putfield 132, 3) := by decide +kernel
theorem dX7_leaks_5 : decode cX7_leaks 5 = .ok (.aload_n 0, 1) := by decide +kernel
theorem dX7_leaks_6 : decode cX7_leaks 6 = .ok (.getfield 209, 3) := by decide +kernel
theorem dX7_leaks_9 : decode cX7_leaks 9 = .ok (.ireturn, 1) := by decide +kernel
theorem dX7_inputsOf_0 : decode cX7_inputsOf 0 = .ok (.iconst 0, 1) := by decide +kernel
theorem dX7_inputsOf_1 : decode cX7_inputsOf 1 = .ok (.istore_n 2, 1) := by decide +kernel
theorem dX7_inputsOf_2 : decode cX7_inputsOf 2 = .ok (.iconst 0, 1) := by decide +kernel
theorem dX7_inputsOf_3 : decode cX7_inputsOf 3 = .ok (.istore_n 3, 1) := by decide +kernel
theorem dX7_inputsOf_4 : decode cX7_inputsOf 4 = .ok (.iload_n 3, 1) := by decide +kernel
theorem dX7_inputsOf_5 : decode cX7_inputsOf 5 = .ok (.aload_n 0, 1) := by decide +kernel
theorem dX7_inputsOf_6 : decode cX7_inputsOf 6 = .ok (.getfield 25, 3) := by decide +kernel
theorem dX7_inputsOf_9 : decode cX7_inputsOf 9 = .ok (.iload_n 1, 1) := by decide +kernel
theorem dX7_inputsOf_10 : decode cX7_inputsOf 10 = .ok (.iaload, 1) := by decide +kernel
theorem dX7_inputsOf_11 : decode cX7_inputsOf 11 = .ok (.if_icmp .ge 52, 3) := by decide +kernel
theorem dX7_inputsOf_14 : decode cX7_inputsOf 14 = .ok (.aload_n 0, 1) := by decide +kernel
theorem dX7_inputsOf_15 : decode cX7_inputsOf 15 = .ok (.getfield 13, 3) := by decide +kernel
theorem dX7_inputsOf_18 : decode cX7_inputsOf 18 = .ok (.iload_n 1, 1) := by decide +kernel
theorem dX7_inputsOf_19 : decode cX7_inputsOf 19 = .ok (.iaload, 1) := by decide +kernel
theorem dX7_inputsOf_20 : decode cX7_inputsOf 20 = .ok (.iconst (-1), 1) := by decide +kernel
theorem dX7_inputsOf_21 : decode cX7_inputsOf 21 = .ok (.if_icmp .eq 42, 3) := by decide +kernel
theorem dX7_inputsOf_24 : decode cX7_inputsOf 24 = .ok (.iload_n 2, 1) := by decide +kernel
theorem dX7_inputsOf_25 : decode cX7_inputsOf 25 = .ok (.aload_n 0, 1) := by decide +kernel
theorem dX7_inputsOf_26 : decode cX7_inputsOf 26 = .ok (.getfield 28, 3) := by decide +kernel
theorem dX7_inputsOf_29 : decode cX7_inputsOf 29 = .ok (.iconst 4, 1) := by decide +kernel
theorem dX7_inputsOf_30 : decode cX7_inputsOf 30 = .ok (.iload_n 1, 1) := by decide +kernel
theorem dX7_inputsOf_31 : decode cX7_inputsOf 31 = .ok (.imul, 1) := by decide +kernel
theorem dX7_inputsOf_32 : decode cX7_inputsOf 32 = .ok (.iload_n 3, 1) := by decide +kernel
theorem dX7_inputsOf_33 : decode cX7_inputsOf 33 = .ok (.iadd, 1) := by decide +kernel
theorem dX7_inputsOf_34 : decode cX7_inputsOf 34 = .ok (.iaload, 1) := by decide +kernel
theorem dX7_inputsOf_35 : decode cX7_inputsOf 35 = .ok (.iconst 1, 1) := by decide +kernel
theorem dX7_inputsOf_36 : decode cX7_inputsOf 36 = .ok (.if_icmp .le 18, 3) := by decide +kernel
theorem dX7_inputsOf_39 : decode cX7_inputsOf 39 = .ok (.iconst 1, 1) := by decide +kernel
theorem dX7_inputsOf_40 : decode cX7_inputsOf 40 = .ok (.aload_n 0, 1) := by decide +kernel
theorem dX7_inputsOf_41 : decode cX7_inputsOf 41 = .ok (.getfield 31, 3) := by decide +kernel
theorem dX7_inputsOf_44 : decode cX7_inputsOf 44 = .ok (.iconst 4, 1) := by decide +kernel
theorem dX7_inputsOf_45 : decode cX7_inputsOf 45 = .ok (.iload_n 1, 1) := by decide +kernel
theorem dX7_inputsOf_46 : decode cX7_inputsOf 46 = .ok (.imul, 1) := by decide +kernel
theorem dX7_inputsOf_47 : decode cX7_inputsOf 47 = .ok (.iload_n 3, 1) := by decide +kernel
theorem dX7_inputsOf_48 : decode cX7_inputsOf 48 = .ok (.iadd, 1) := by decide +kernel
theorem dX7_inputsOf_49 : decode cX7_inputsOf 49 = .ok (.iaload, 1) := by decide +kernel
theorem dX7_inputsOf_50 : decode cX7_inputsOf 50 = .ok (.ishl, 1) := by decide +kernel
theorem dX7_inputsOf_51 : decode cX7_inputsOf 51 = .ok (.goto 4, 3) := by decide +kernel
theorem dX7_inputsOf_54 : decode cX7_inputsOf 54 = .ok (.iconst 0, 1) := by decide +kernel
theorem dX7_inputsOf_55 : decode cX7_inputsOf 55 = .ok (.ior, 1) := by decide +kernel
theorem dX7_inputsOf_56 : decode cX7_inputsOf 56 = .ok (.istore_n 2, 1) := by decide +kernel
theorem dX7_inputsOf_57 : decode cX7_inputsOf 57 = .ok (.iinc 3 1, 3) := by decide +kernel
theorem dX7_inputsOf_60 : decode cX7_inputsOf 60 = .ok (.goto (-56), 3) := by decide +kernel
theorem dX7_inputsOf_63 : decode cX7_inputsOf 63 = .ok (.iload_n 2, 1) := by decide +kernel
theorem dX7_inputsOf_64 : decode cX7_inputsOf 64 = .ok (.ireturn, 1) := by decide +kernel
set_option maxRecDepth 20000 in
theorem ggX7_needsOf_X7_inputsOf : GoodIn wsX7_needsOf wsX7_inputsOf := goodIn_r _ [5, 6, 7, 8, 9, 13, 14, 15, 16, 17, 18, 19, 20, 21, 22, 23, 24, 25, 26, 27, 28, 29, 30, 31, 32, 33, 34, 35, 36, 37, 38, 39, 40, 41, 42, 43, 44, 45, 46, 47, 48, 49, 50, 51, 52, 53, 54, 55, 56, 57, 58, 59, 60] (by decide +kernel) (by decide +kernel)
set_option maxRecDepth 20000 in
theorem gX7_needsOf_X7_inputsOf : GoodIn wsX7_needsOf (wsV RX7 257 RX7 yX7_inputsOf wsX7_inputsOf) := goodIn_app (goodIn_of _ (by decide +kernel)) ggX7_needsOf_X7_inputsOf
set_option maxRecDepth 20000 in
theorem ggX7_needsOf_X7_has : GoodIn wsX7_needsOf wsX7_has := goodIn_r _ [12] (by decide +kernel) (by decide +kernel)
set_option maxRecDepth 20000 in
theorem gX7_needsOf_X7_has : GoodIn wsX7_needsOf (va_wsS RX7 260 yX7_has wsX7_has) := goodIn_app (goodIn_of _ (by decide +kernel)) ggX7_needsOf_X7_has
theorem dX7_needsOf_0 : decode cX7_needsOf 0 = .ok (.aload_n 0, 1) := by decide +kernel
theorem dX7_needsOf_1 : decode cX7_needsOf 1 = .ok (.iload_n 1, 1) := by decide +kernel
theorem dX7_needsOf_2 : decode cX7_needsOf 2 = .ok (.invokevirtual 257, 3) := by decide +kernel
theorem dX7_needsOf_5 : decode cX7_needsOf 5 = .ok (.istore_n 2, 1) := by decide +kernel
theorem dX7_needsOf_6 : decode cX7_needsOf 6 = .ok (.iconst 0, 1) := by decide +kernel
theorem dX7_needsOf_7 : decode cX7_needsOf 7 = .ok (.istore_n 3, 1) := by decide +kernel
theorem dX7_needsOf_8 : decode cX7_needsOf 8 = .ok (.iload_n 2, 1) := by decide +kernel
theorem dX7_needsOf_9 : decode cX7_needsOf 9 = .ok (.iload_n 3, 1) := by decide +kernel
theorem dX7_needsOf_10 : decode cX7_needsOf 10 = .ok (.if_icmp .eq 46, 3) := by decide +kernel
theorem dX7_needsOf_13 : decode cX7_needsOf 13 = .ok (.iload_n 2, 1) := by decide +kernel
theorem dX7_needsOf_14 : decode cX7_needsOf 14 = .ok (.istore_n 3, 1) := by decide +kernel
theorem dX7_needsOf_15 : decode cX7_needsOf 15 = .ok (.iconst 0, 1) := by decide +kernel
theorem dX7_needsOf_16 : decode cX7_needsOf 16 = .ok (.istore 4, 2) := by decide +kernel
theorem dX7_needsOf_18 : decode cX7_needsOf 18 = .ok (.iload 4, 2) := by decide +kernel
theorem dX7_needsOf_20 : decode cX7_needsOf 20 = .ok (.bipush 16, 2) := by decide +kernel
theorem dX7_needsOf_22 : decode cX7_needsOf 22 = .ok (.if_icmp .ge 31, 3) := by decide +kernel
theorem dX7_needsOf_25 : decode cX7_needsOf 25 = .ok (.iload_n 2, 1) := by decide +kernel
theorem dX7_needsOf_26 : decode cX7_needsOf 26 = .ok (.iload_n 3, 1) := by decide +kernel
theorem dX7_needsOf_27 : decode cX7_needsOf 27 = .ok (.iload 4, 2) := by decide +kernel
theorem dX7_needsOf_29 : decode cX7_needsOf 29 = .ok (.invokestatic 260, 3) := by decide +kernel
theorem dX7_needsOf_32 : decode cX7_needsOf 32 = .ok (.ifCond .eq 12, 3) := by decide +kernel
theorem dX7_needsOf_35 : decode cX7_needsOf 35 = .ok (.aload_n 0, 1) := by decide +kernel
theorem dX7_needsOf_36 : decode cX7_needsOf 36 = .ok (.iload 4, 2) := by decide +kernel
theorem dX7_needsOf_38 : decode cX7_needsOf 38 = .ok (.invokevirtual 257, 3) := by decide +kernel
theorem dX7_needsOf_41 : decode cX7_needsOf 41 = .ok (.goto 4, 3) := by decide +kernel
theorem dX7_needsOf_44 : decode cX7_needsOf 44 = .ok (.iconst 0, 1) := by decide +kernel
theorem dX7_needsOf_45 : decode cX7_needsOf 45 = .ok (.ior, 1) := by decide +kernel
theorem dX7_needsOf_46 : decode cX7_needsOf 46 = .ok (.istore_n 2, 1) := by decide +kernel
theorem dX7_needsOf_47 : decode cX7_needsOf 47 = .ok (.iinc 4 1, 3) := by decide +kernel
theorem dX7_needsOf_50 : decode cX7_needsOf 50 = .ok (.goto (-32), 3) := by decide +kernel
theorem dX7_needsOf_53 : decode cX7_needsOf 53 = .ok (.goto (-45), 3) := by decide +kernel
theorem dX7_needsOf_56 : decode cX7_needsOf 56 = .ok (.iload_n 2, 1) := by decide +kernel
theorem dX7_needsOf_57 : decode cX7_needsOf 57 = .ok (.ireturn, 1) := by decide +kernel
set_option maxRecDepth 20000 in
theorem ggX7_needs_X7_isTarget : GoodIn wsX7_needs wsX7_isTarget := goodIn_r _ [4, 5, 6, 3, 7] (by decide +kernel) (by decide +kernel)
set_option maxRecDepth 20000 in
theorem gX7_needs_X7_isTarget : GoodIn wsX7_needs (va_wsS RX7 144 yX7_isTarget wsX7_isTarget) := goodIn_app (goodIn_of _ (by decide +kernel)) ggX7_needs_X7_isTarget
set_option maxRecDepth 20000 in
theorem ggX7_needs_X7_goes : GoodIn wsX7_needs wsX7_goes := goodIn_r _ [11, 12, 28, 29, 30, 31, 32, 33, 34, 35, 36, 37, 38, 39, 40, 41, 42, 43, 44, 45, 46, 47, 48, 49, 50, 51, 52, 53, 54, 55, 56, 57, 58, 59, 60, 61, 62, 63, 64, 65, 66, 67, 68, 69, 70, 71, 72, 73, 74, 75] (by decide +kernel) (by decide +kernel)
set_option maxRecDepth 20000 in
theorem gX7_needs_X7_goes : GoodIn wsX7_needs (wsV RX7 140 RX7 yX7_goes wsX7_goes) := goodIn_app (goodIn_of _ (by decide +kernel)) ggX7_needs_X7_goes
set_option maxRecDepth 20000 in
theorem ggX7_needs_X7_needsOf : GoodIn wsX7_needs wsX7_needsOf := goodIn_r _ [16, 17, 18, 19, 3, 20, 21, 22, 23, 24, 25, 26, 27, 28, 29, 30, 31, 32, 33, 34, 35, 36, 37, 38, 39, 40, 41, 42, 43, 44, 45, 46, 47, 48, 49, 50, 51, 52, 53, 54, 55, 56, 57, 58, 59, 60, 61, 62, 63, 64, 65, 66, 67, 68, 69, 70, 71, 72, 73, 74, 75] (by decide +kernel) (by decide +kernel)
set_option maxRecDepth 20000 in
theorem gX7_needs_X7_needsOf : GoodIn wsX7_needs (wsV RX7 263 RX7 yX7_needsOf wsX7_needsOf) := goodIn_app (goodIn_of _ (by decide +kernel)) ggX7_needs_X7_needsOf
theorem dX7_needs_0 : decode cX7_needs 0 = .ok (.aload_n 0, 1) := by decide +kernel
theorem dX7_needs_1 : decode cX7_needs 1 = .ok (.iload_n 1, 1) := by decide +kernel
theorem dX7_needs_2 : decode cX7_needs 2 = .ok (.invokestatic 144, 3) := by decide +kernel
theorem dX7_needs_5 : decode cX7_needs 5 = .ok (.ifCond .eq 7, 3) := by decide +kernel
theorem dX7_needs_8 : decode cX7_needs 8 = .ok (.iconst 0, 1) := by decide +kernel
theorem dX7_needs_9 : decode cX7_needs 9 = .ok (.goto 4, 3) := by decide +kernel
theorem dX7_needs_12 : decode cX7_needs 12 = .ok (.iconst 1, 1) := by decide +kernel
theorem dX7_needs_13 : decode cX7_needs 13 = .ok (.invokevirtual 140, 3) := by decide +kernel
theorem dX7_needs_16 : decode cX7_needs 16 = .ok (.ifCond .eq 11, 3) := by decide +kernel
theorem dX7_needs_19 : decode cX7_needs 19 = .ok (.aload_n 0, 1) := by decide +kernel
theorem dX7_needs_20 : decode cX7_needs 20 = .ok (.iload_n 1, 1) := by decide +kernel
theorem dX7_needs_21 : decode cX7_needs 21 = .ok (.invokevirtual 263, 3) := by decide +kernel
theorem dX7_needs_24 : decode cX7_needs 24 = .ok (.goto 4, 3) := by decide +kernel
theorem dX7_needs_27 : decode cX7_needs 27 = .ok (.iconst 0, 1) := by decide +kernel
theorem dX7_needs_28 : decode cX7_needs 28 = .ok (.ireturn, 1) := by decide +kernel
set_option maxRecDepth 20000 in
theorem ggX7_users_X7_isTarget : GoodIn wsX7_users wsX7_isTarget := goodIn_r _ [5, 6, 7, 4, 8] (by decide +kernel) (by decide +kernel)
set_option maxRecDepth 20000 in
theorem gX7_users_X7_isTarget : GoodIn wsX7_users (va_wsS RX7 144 yX7_isTarget wsX7_isTarget) := goodIn_app (goodIn_of _ (by decide +kernel)) ggX7_users_X7_isTarget
set_option maxRecDepth 20000 in
theorem ggX7_users_X7_isIn : GoodIn wsX7_users wsX7_isIn := goodIn_r _ [8] (by decide +kernel) (by decide +kernel)
set_option maxRecDepth 20000 in
theorem gX7_users_X7_isIn : GoodIn wsX7_users (va_wsS RX7 136 yX7_isIn wsX7_isIn) := goodIn_app (goodIn_of _ (by decide +kernel)) ggX7_users_X7_isIn
set_option maxRecDepth 20000 in
theorem ggX7_users_X7_goes : GoodIn wsX7_users wsX7_goes := goodIn_r _ [12, 13, 32, 33, 34, 35, 36, 37, 38, 39, 40, 41, 42, 43, 44, 45, 46, 47, 48, 49, 50, 51, 52, 53, 54, 55, 56, 57, 58, 59, 60, 61, 62, 63, 64, 65, 66, 67, 68, 69, 70, 71, 72, 73, 74, 75, 76, 77, 78, 79] (by decide +kernel) (by decide +kernel)
set_option maxRecDepth 20000 in
theorem gX7_users_X7_goes : GoodIn wsX7_users (wsV RX7 140 RX7 yX7_goes wsX7_goes) := goodIn_app (goodIn_of _ (by decide +kernel)) ggX7_users_X7_goes
set_option maxRecDepth 20000 in
theorem ggX7_users_X7_needsOf : GoodIn wsX7_users wsX7_needsOf := goodIn_r _ [17, 18, 19, 20, 4, 21, 22, 1, 23, 24, 25, 26, 27, 32, 33, 34, 35, 36, 37, 38, 39, 40, 41, 42, 43, 44, 45, 46, 47, 48, 49, 50, 51, 52, 53, 54, 55, 56, 57, 58, 59, 60, 61, 62, 63, 64, 65, 66, 67, 68, 69, 70, 71, 72, 73, 74, 75, 76, 77, 78, 79] (by decide +kernel) (by decide +kernel)
set_option maxRecDepth 20000 in
theorem gX7_users_X7_needsOf : GoodIn wsX7_users (wsV RX7 263 RX7 yX7_needsOf wsX7_needsOf) := goodIn_app (goodIn_of _ (by decide +kernel)) ggX7_users_X7_needsOf
set_option maxRecDepth 20000 in
theorem ggX7_users_X7_has : GoodIn wsX7_users wsX7_has := goodIn_r _ [27] (by decide +kernel) (by decide +kernel)
set_option maxRecDepth 20000 in
theorem gX7_users_X7_has : GoodIn wsX7_users (va_wsS RX7 260 yX7_has wsX7_has) := goodIn_app (goodIn_of _ (by decide +kernel)) ggX7_users_X7_has
set_option maxRecDepth 20000 in
theorem ggX7_users_X7_isSeen : GoodIn wsX7_users wsX7_isSeen := goodIn_r _ [31, 22, 23, 24, 32, 33, 34, 35, 36, 37, 38, 39, 40, 41, 42, 43, 44, 45, 46, 47, 48, 49, 50, 51, 52, 53, 54, 55, 56, 57, 58, 59, 60, 61, 62, 63, 64, 65, 66, 67, 68, 69, 70, 71, 72, 73, 74, 75, 76, 77, 78, 79] (by decide +kernel) (by decide +kernel)
set_option maxRecDepth 20000 in
theorem gX7_users_X7_isSeen : GoodIn wsX7_users (wsV RX7 205 RX7 yX7_isSeen wsX7_isSeen) := goodIn_app (goodIn_of _ (by decide +kernel)) ggX7_users_X7_isSeen
theorem dX7_users_0 : decode cX7_users 0 = .ok (.aload_n 0, 1) := by decide +kernel
theorem dX7_users_1 : decode cX7_users 1 = .ok (.iload_n 1, 1) := by decide +kernel
theorem dX7_users_2 : decode cX7_users 2 = .ok (.invokestatic 144, 3) := by decide +kernel
theorem dX7_users_5 : decode cX7_users 5 = .ok (.ifCond .ne 14, 3) := by decide +kernel
theorem dX7_users_8 : decode cX7_users 8 = .ok (.iload_n 1, 1) := by decide +kernel
theorem dX7_users_9 : decode cX7_users 9 = .ok (.bipush 100, 2) := by decide +kernel
theorem dX7_users_11 : decode cX7_users 11 = .ok (.bipush 119, 2) := by decide +kernel
theorem dX7_users_13 : decode cX7_users 13 = .ok (.invokestatic 136, 3) := by decide +kernel
theorem dX7_users_16 : decode cX7_users 16 = .ok (.ifCond .eq 7, 3) := by decide +kernel
theorem dX7_users_19 : decode cX7_users 19 = .ok (.iconst 0, 1) := by decide +kernel
theorem dX7_users_20 : decode cX7_users 20 = .ok (.goto 4, 3) := by decide +kernel
theorem dX7_users_23 : decode cX7_users 23 = .ok (.iconst 1, 1) := by decide +kernel
theorem dX7_users_24 : decode cX7_users 24 = .ok (.invokevirtual 140, 3) := by decide +kernel
theorem dX7_users_27 : decode cX7_users 27 = .ok (.ifCond .ne 5, 3) := by decide +kernel
theorem dX7_users_30 : decode cX7_users 30 = .ok (.iconst 0, 1) := by decide +kernel
theorem dX7_users_31 : decode cX7_users 31 = .ok (.ireturn, 1) := by decide +kernel
theorem dX7_users_32 : decode cX7_users 32 = .ok (.iconst 0, 1) := by decide +kernel
theorem dX7_users_33 : decode cX7_users 33 = .ok (.istore_n 2, 1) := by decide +kernel
theorem dX7_users_34 : decode cX7_users 34 = .ok (.iconst 0, 1) := by decide +kernel
theorem dX7_users_35 : decode cX7_users 35 = .ok (.istore_n 3, 1) := by decide +kernel
theorem dX7_users_36 : decode cX7_users 36 = .ok (.iload_n 3, 1) := by decide +kernel
theorem dX7_users_37 : decode cX7_users 37 = .ok (.bipush 16, 2) := by decide +kernel
theorem dX7_users_39 : decode cX7_users 39 = .ok (.if_icmp .ge 71, 3) := by decide +kernel
theorem dX7_users_42 : decode cX7_users 42 = .ok (.iload_n 1, 1) := by decide +kernel
theorem dX7_users_43 : decode cX7_users 43 = .ok (.bipush 100, 2) := by decide +kernel
theorem dX7_users_45 : decode cX7_users 45 = .ok (.if_icmp .ge 15, 3) := by decide +kernel
theorem dX7_users_48 : decode cX7_users 48 = .ok (.aload_n 0, 1) := by decide +kernel
theorem dX7_users_49 : decode cX7_users 49 = .ok (.iload_n 3, 1) := by decide +kernel
theorem dX7_users_50 : decode cX7_users 50 = .ok (.invokevirtual 263, 3) := by decide +kernel
theorem dX7_users_53 : decode cX7_users 53 = .ok (.iload_n 1, 1) := by decide +kernel
theorem dX7_users_54 : decode cX7_users 54 = .ok (.invokestatic 260, 3) := by decide +kernel
theorem dX7_users_57 : decode cX7_users 57 = .ok (.goto 30, 3) := by decide +kernel
theorem dX7_users_60 : decode cX7_users 60 = .ok (.aload_n 0, 1) := by decide +kernel
theorem dX7_users_61 : decode cX7_users 61 = .ok (.getfield 13, 3) := by decide +kernel
theorem dX7_users_64 : decode cX7_users 64 = .ok (.iload_n 3, 1) := by decide +kernel
theorem dX7_users_65 : decode cX7_users 65 = .ok (.iaload, 1) := by decide +kernel
theorem dX7_users_66 : decode cX7_users 66 = .ok (.iconst (-1), 1) := by decide +kernel
theorem dX7_users_67 : decode cX7_users 67 = .ok (.if_icmp .eq 19, 3) := by decide +kernel
theorem dX7_users_70 : decode cX7_users 70 = .ok (.aload_n 0, 1) := by decide +kernel
theorem dX7_users_71 : decode cX7_users 71 = .ok (.iload_n 3, 1) := by decide +kernel
theorem dX7_users_72 : decode cX7_users 72 = .ok (.iload_n 1, 1) := by decide +kernel
theorem dX7_users_73 : decode cX7_users 73 = .ok (.bipush 100, 2) := by decide +kernel
theorem dX7_users_75 : decode cX7_users 75 = .ok (.isub, 1) := by decide +kernel
theorem dX7_users_76 : decode cX7_users 76 = .ok (.invokevirtual 205, 3) := by decide +kernel
theorem dX7_users_79 : decode cX7_users 79 = .ok (.ifCond .eq 7, 3) := by decide +kernel
theorem dX7_users_82 : decode cX7_users 82 = .ok (.iconst 1, 1) := by decide +kernel
theorem dX7_users_83 : decode cX7_users 83 = .ok (.goto 4, 3) := by decide +kernel
theorem dX7_users_86 : decode cX7_users 86 = .ok (.iconst 0, 1) := by decide +kernel
theorem dX7_users_87 : decode cX7_users 87 = .ok (.istore 4, 2) := by decide +kernel
theorem dX7_users_89 : decode cX7_users 89 = .ok (.iload_n 2, 1) := by decide +kernel
theorem dX7_users_90 : decode cX7_users 90 = .ok (.iload 4, 2) := by decide +kernel
theorem dX7_users_92 : decode cX7_users 92 = .ok (.ifCond .eq 9, 3) := by decide +kernel
theorem dX7_users_95 : decode cX7_users 95 = .ok (.iconst 1, 1) := by decide +kernel
theorem dX7_users_96 : decode cX7_users 96 = .ok (.iload_n 3, 1) := by decide +kernel
theorem dX7_users_97 : decode cX7_users 97 = .ok (.ishl, 1) := by decide +kernel
theorem dX7_users_98 : decode cX7_users 98 = .ok (.goto 4, 3) := by decide +kernel
theorem dX7_users_101 : decode cX7_users 101 = .ok (.iconst 0, 1) := by decide +kernel
theorem dX7_users_102 : decode cX7_users 102 = .ok (.ior, 1) := by decide +kernel
theorem dX7_users_103 : decode cX7_users 103 = .ok (.istore_n 2, 1) := by decide +kernel
theorem dX7_users_104 : decode cX7_users 104 = .ok (.iinc 3 1, 3) := by decide +kernel
theorem dX7_users_107 : decode cX7_users 107 = .ok (.goto (-71), 3) := by decide +kernel
theorem dX7_users_110 : decode cX7_users 110 = .ok (.iload_n 2, 1) := by decide +kernel
theorem dX7_users_111 : decode cX7_users 111 = .ok (.istore_n 3, 1) := by decide +kernel
theorem dX7_users_112 : decode cX7_users 112 = .ok (.iconst 0, 1) := by decide +kernel
theorem dX7_users_113 : decode cX7_users 113 = .ok (.istore 4, 2) := by decide +kernel
theorem dX7_users_115 : decode cX7_users 115 = .ok (.iload 4, 2) := by decide +kernel
theorem dX7_users_117 : decode cX7_users 117 = .ok (.bipush 16, 2) := by decide +kernel
theorem dX7_users_119 : decode cX7_users 119 = .ok (.if_icmp .ge 37, 3) := by decide +kernel
theorem dX7_users_122 : decode cX7_users 122 = .ok (.iload_n 1, 1) := by decide +kernel
theorem dX7_users_123 : decode cX7_users 123 = .ok (.bipush 99, 2) := by decide +kernel
theorem dX7_users_125 : decode cX7_users 125 = .ok (.if_icmp .le 31, 3) := by decide +kernel
theorem dX7_users_128 : decode cX7_users 128 = .ok (.iload_n 3, 1) := by decide +kernel
theorem dX7_users_129 : decode cX7_users 129 = .ok (.aload_n 0, 1) := by decide +kernel
theorem dX7_users_130 : decode cX7_users 130 = .ok (.iload 4, 2) := by decide +kernel
theorem dX7_users_132 : decode cX7_users 132 = .ok (.invokevirtual 263, 3) := by decide +kernel
theorem dX7_users_135 : decode cX7_users 135 = .ok (.iload_n 2, 1) := by decide +kernel
theorem dX7_users_136 : decode cX7_users 136 = .ok (.iand, 1) := by decide +kernel
theorem dX7_users_137 : decode cX7_users 137 = .ok (.ifCond .eq 10, 3) := by decide +kernel
theorem dX7_users_140 : decode cX7_users 140 = .ok (.iconst 1, 1) := by decide +kernel
theorem dX7_users_141 : decode cX7_users 141 = .ok (.iload 4, 2) := by decide +kernel
theorem dX7_users_143 : decode cX7_users 143 = .ok (.ishl, 1) := by decide +kernel
theorem dX7_users_144 : decode cX7_users 144 = .ok (.goto 4, 3) := by decide +kernel
theorem dX7_users_147 : decode cX7_users 147 = .ok (.iconst 0, 1) := by decide +kernel
theorem dX7_users_148 : decode cX7_users 148 = .ok (.ior, 1) := by decide +kernel
theorem dX7_users_149 : decode cX7_users 149 = .ok (.istore_n 3, 1) := by decide +kernel
theorem dX7_users_150 : decode cX7_users 150 = .ok (.iinc 4 1, 3) := by decide +kernel
theorem dX7_users_153 : decode cX7_users 153 = .ok (.goto (-38), 3) := by decide +kernel
theorem dX7_users_156 : decode cX7_users 156 = .ok (.iload_n 3, 1) := by decide +kernel
theorem dX7_users_157 : decode cX7_users 157 = .ok (.ireturn, 1) := by decide +kernel
set_option maxRecDepth 20000 in
theorem ggX7_steps_X7_inputsOf : GoodIn wsX7_steps wsX7_inputsOf := goodIn_r _ [5, 6, 7, 8, 9, 13, 14, 15, 16, 17, 18, 19, 20, 21, 22, 23, 24, 25, 26, 27, 28, 29, 30, 31, 32, 33, 34, 35, 36, 37, 38, 39, 40, 41, 42, 43, 44, 45, 46, 47, 48, 49, 50, 51, 52, 53, 54, 55, 56, 57, 58, 59, 60] (by decide +kernel) (by decide +kernel)
set_option maxRecDepth 20000 in
theorem gX7_steps_X7_inputsOf : GoodIn wsX7_steps (wsV RX7 257 RX7 yX7_inputsOf wsX7_inputsOf) := goodIn_app (goodIn_of _ (by decide +kernel)) ggX7_steps_X7_inputsOf
set_option maxRecDepth 20000 in
theorem ggX7_steps_X7_has : GoodIn wsX7_steps wsX7_has := goodIn_r _ [12] (by decide +kernel) (by decide +kernel)
set_option maxRecDepth 20000 in
theorem gX7_steps_X7_has : GoodIn wsX7_steps (va_wsS RX7 260 yX7_has wsX7_has) := goodIn_app (goodIn_of _ (by decide +kernel)) ggX7_steps_X7_has
theorem dX7_steps_0 : decode cX7_steps 0 = .ok (.aload_n 0, 1) := by decide +kernel
theorem dX7_steps_1 : decode cX7_steps 1 = .ok (.iload_n 1, 1) := by decide +kernel
theorem dX7_steps_2 : decode cX7_steps 2 = .ok (.invokevirtual 257, 3) := by decide +kernel
theorem dX7_steps_5 : decode cX7_steps 5 = .ok (.istore_n 3, 1) := by decide +kernel
theorem dX7_steps_6 : decode cX7_steps 6 = .ok (.iload_n 3, 1) := by decide +kernel
theorem dX7_steps_7 : decode cX7_steps 7 = .ok (.istore 4, 2) := by decide +kernel
theorem dX7_steps_9 : decode cX7_steps 9 = .ok (.iconst 1, 1) := by decide +kernel
theorem dX7_steps_10 : decode cX7_steps 10 = .ok (.istore 5, 2) := by decide +kernel
theorem dX7_steps_12 : decode cX7_steps 12 = .ok (.iload 5, 2) := by decide +kernel
theorem dX7_steps_14 : decode cX7_steps 14 = .ok (.bipush 16, 2) := by decide +kernel
theorem dX7_steps_16 : decode cX7_steps 16 = .ok (.if_icmp .gt 78, 3) := by decide +kernel
theorem dX7_steps_19 : decode cX7_steps 19 = .ok (.iload_n 3, 1) := by decide +kernel
theorem dX7_steps_20 : decode cX7_steps 20 = .ok (.iload_n 2, 1) := by decide +kernel
theorem dX7_steps_21 : decode cX7_steps 21 = .ok (.invokestatic 260, 3) := by decide +kernel
theorem dX7_steps_24 : decode cX7_steps 24 = .ok (.ifCond .eq 6, 3) := by decide +kernel
theorem dX7_steps_27 : decode cX7_steps 27 = .ok (.iload 5, 2) := by decide +kernel
theorem dX7_steps_29 : decode cX7_steps 29 = .ok (.ireturn, 1) := by decide +kernel
theorem dX7_steps_30 : decode cX7_steps 30 = .ok (.iconst 0, 1) := by decide +kernel
theorem dX7_steps_31 : decode cX7_steps 31 = .ok (.istore 6, 2) := by decide +kernel
theorem dX7_steps_33 : decode cX7_steps 33 = .ok (.iconst 0, 1) := by decide +kernel
theorem dX7_steps_34 : decode cX7_steps 34 = .ok (.istore 7, 2) := by decide +kernel
theorem dX7_steps_36 : decode cX7_steps 36 = .ok (.iload 7, 2) := by decide +kernel
theorem dX7_steps_38 : decode cX7_steps 38 = .ok (.bipush 16, 2) := by decide +kernel
theorem dX7_steps_40 : decode cX7_steps 40 = .ok (.if_icmp .ge 33, 3) := by decide +kernel
theorem dX7_steps_43 : decode cX7_steps 43 = .ok (.iload 6, 2) := by decide +kernel
theorem dX7_steps_45 : decode cX7_steps 45 = .ok (.iload_n 3, 1) := by decide +kernel
theorem dX7_steps_46 : decode cX7_steps 46 = .ok (.iload 7, 2) := by decide +kernel
theorem dX7_steps_48 : decode cX7_steps 48 = .ok (.invokestatic 260, 3) := by decide +kernel
theorem dX7_steps_51 : decode cX7_steps 51 = .ok (.ifCond .eq 12, 3) := by decide +kernel
theorem dX7_steps_54 : decode cX7_steps 54 = .ok (.aload_n 0, 1) := by decide +kernel
theorem dX7_steps_55 : decode cX7_steps 55 = .ok (.iload 7, 2) := by decide +kernel
theorem dX7_steps_57 : decode cX7_steps 57 = .ok (.invokevirtual 257, 3) := by decide +kernel
theorem dX7_steps_60 : decode cX7_steps 60 = .ok (.goto 4, 3) := by decide +kernel
theorem dX7_steps_63 : decode cX7_steps 63 = .ok (.iconst 0, 1) := by decide +kernel
theorem dX7_steps_64 : decode cX7_steps 64 = .ok (.ior, 1) := by decide +kernel
theorem dX7_steps_65 : decode cX7_steps 65 = .ok (.istore 6, 2) := by decide +kernel
theorem dX7_steps_67 : decode cX7_steps 67 = .ok (.iinc 7 1, 3) := by decide +kernel
theorem dX7_steps_70 : decode cX7_steps 70 = .ok (.goto (-34), 3) := by decide +kernel
theorem dX7_steps_73 : decode cX7_steps 73 = .ok (.iload 6, 2) := by decide +kernel
theorem dX7_steps_75 : decode cX7_steps 75 = .ok (.iload 4, 2) := by decide +kernel
theorem dX7_steps_77 : decode cX7_steps 77 = .ok (.iconst (-1), 1) := by decide +kernel
theorem dX7_steps_78 : decode cX7_steps 78 = .ok (.ixor, 1) := by decide +kernel
theorem dX7_steps_79 : decode cX7_steps 79 = .ok (.iand, 1) := by decide +kernel
theorem dX7_steps_80 : decode cX7_steps 80 = .ok (.istore_n 3, 1) := by decide +kernel
theorem dX7_steps_81 : decode cX7_steps 81 = .ok (.iload 4, 2) := by decide +kernel
theorem dX7_steps_83 : decode cX7_steps 83 = .ok (.iload 6, 2) := by decide +kernel
theorem dX7_steps_85 : decode cX7_steps 85 = .ok (.ior, 1) := by decide +kernel
theorem dX7_steps_86 : decode cX7_steps 86 = .ok (.istore 4, 2) := by decide +kernel
theorem dX7_steps_88 : decode cX7_steps 88 = .ok (.iinc 5 1, 3) := by decide +kernel
theorem dX7_steps_91 : decode cX7_steps 91 = .ok (.goto (-79), 3) := by decide +kernel
theorem dX7_steps_94 : decode cX7_steps 94 = .ok (.iconst (-1), 1) := by decide +kernel
theorem dX7_steps_95 : decode cX7_steps 95 = .ok (.ireturn, 1) := by decide +kernel
set_option maxRecDepth 20000 in
theorem ggX7_ring_X7_isTarget : GoodIn wsX7_ring wsX7_isTarget := goodIn_r _ [4, 5, 6, 3, 7] (by decide +kernel) (by decide +kernel)
set_option maxRecDepth 20000 in
theorem gX7_ring_X7_isTarget : GoodIn wsX7_ring (va_wsS RX7 144 yX7_isTarget wsX7_isTarget) := goodIn_app (goodIn_of _ (by decide +kernel)) ggX7_ring_X7_isTarget
set_option maxRecDepth 20000 in
theorem ggX7_ring_X7_goes : GoodIn wsX7_ring wsX7_goes := goodIn_r _ [11, 12, 28, 29, 30, 31, 32, 33, 34, 35, 36, 37, 38, 39, 40, 41, 42, 43, 44, 45, 46, 47, 48, 49, 50, 51, 52, 53, 54, 55, 56, 57, 58, 59, 60, 61, 62, 63, 64, 65, 66, 67, 68, 69, 70, 71, 72, 73, 74, 75] (by decide +kernel) (by decide +kernel)
set_option maxRecDepth 20000 in
theorem gX7_ring_X7_goes : GoodIn wsX7_ring (wsV RX7 140 RX7 yX7_goes wsX7_goes) := goodIn_app (goodIn_of _ (by decide +kernel)) ggX7_ring_X7_goes
set_option maxRecDepth 20000 in
theorem ggX7_ring_X7_steps : GoodIn wsX7_ring wsX7_steps := goodIn_r _ [16, 17, 18, 19, 3, 20, 21, 22, 23, 24, 25, 26, 27, 28, 29, 30, 31, 32, 33, 34, 35, 36, 37, 38, 39, 40, 41, 42, 43, 44, 45, 46, 47, 48, 49, 50, 51, 52, 53, 54, 55, 56, 57, 58, 59, 60, 61, 62, 63, 64, 65, 66, 67, 68, 69, 70, 71, 72, 73, 74, 75] (by decide +kernel) (by decide +kernel)
set_option maxRecDepth 20000 in
theorem gX7_ring_X7_steps : GoodIn wsX7_ring (wsV RX7 266 RX7 yX7_steps wsX7_steps) := goodIn_app (goodIn_of _ (by decide +kernel)) ggX7_ring_X7_steps
theorem dX7_ring_0 : decode cX7_ring 0 = .ok (.aload_n 0, 1) := by decide +kernel
theorem dX7_ring_1 : decode cX7_ring 1 = .ok (.iload_n 1, 1) := by decide +kernel
theorem dX7_ring_2 : decode cX7_ring 2 = .ok (.invokestatic 144, 3) := by decide +kernel
theorem dX7_ring_5 : decode cX7_ring 5 = .ok (.ifCond .eq 7, 3) := by decide +kernel
theorem dX7_ring_8 : decode cX7_ring 8 = .ok (.iconst 0, 1) := by decide +kernel
theorem dX7_ring_9 : decode cX7_ring 9 = .ok (.goto 4, 3) := by decide +kernel
theorem dX7_ring_12 : decode cX7_ring 12 = .ok (.iconst 1, 1) := by decide +kernel
theorem dX7_ring_13 : decode cX7_ring 13 = .ok (.invokevirtual 140, 3) := by decide +kernel
theorem dX7_ring_16 : decode cX7_ring 16 = .ok (.ifCond .eq 12, 3) := by decide +kernel
theorem dX7_ring_19 : decode cX7_ring 19 = .ok (.aload_n 0, 1) := by decide +kernel
theorem dX7_ring_20 : decode cX7_ring 20 = .ok (.iload_n 1, 1) := by decide +kernel
theorem dX7_ring_21 : decode cX7_ring 21 = .ok (.iload_n 1, 1) := by decide +kernel
theorem dX7_ring_22 : decode cX7_ring 22 = .ok (.invokevirtual 266, 3) := by decide +kernel
theorem dX7_ring_25 : decode cX7_ring 25 = .ok (.goto 4, 3) := by decide +kernel
theorem dX7_ring_28 : decode cX7_ring 28 = .ok (.iconst 0, 1) := by decide +kernel
theorem dX7_ring_29 : decode cX7_ring 29 = .ok (.ireturn, 1) := by decide +kernel
set_option maxRecDepth 20000 in
theorem ggX7_way_X7_isTarget : GoodIn wsX7_way wsX7_isTarget := goodIn_r _ [4, 5, 6, 3, 7] (by decide +kernel) (by decide +kernel)
set_option maxRecDepth 20000 in
theorem gX7_way_X7_isTarget : GoodIn wsX7_way (va_wsS RX7 144 yX7_isTarget wsX7_isTarget) := goodIn_app (goodIn_of _ (by decide +kernel)) ggX7_way_X7_isTarget
set_option maxRecDepth 20000 in
theorem ggX7_way_X7_goes : GoodIn wsX7_way wsX7_goes := goodIn_r _ [11, 12, 28, 29, 30, 31, 32, 33, 34, 35, 36, 37, 38, 39, 40, 41, 42, 43, 44, 45, 46, 47, 48, 49, 50, 51, 52, 53, 54, 55, 56, 57, 58, 59, 60, 61, 62, 63, 64, 65, 66, 67, 68, 69, 70, 71, 72, 73, 74, 75] (by decide +kernel) (by decide +kernel)
set_option maxRecDepth 20000 in
theorem gX7_way_X7_goes : GoodIn wsX7_way (wsV RX7 140 RX7 yX7_goes wsX7_goes) := goodIn_app (goodIn_of _ (by decide +kernel)) ggX7_way_X7_goes
set_option maxRecDepth 20000 in
theorem ggX7_way_X7_steps : GoodIn wsX7_way wsX7_steps := goodIn_r _ [16, 17, 18, 19, 3, 20, 21, 22, 23, 24, 25, 26, 27, 28, 29, 30, 31, 32, 33, 34, 35, 36, 37, 38, 39, 40, 41, 42, 43, 44, 45, 46, 47, 48, 49, 50, 51, 52, 53, 54, 55, 56, 57, 58, 59, 60, 61, 62, 63, 64, 65, 66, 67, 68, 69, 70, 71, 72, 73, 74, 75] (by decide +kernel) (by decide +kernel)
set_option maxRecDepth 20000 in
theorem gX7_way_X7_steps : GoodIn wsX7_way (wsV RX7 266 RX7 yX7_steps wsX7_steps) := goodIn_app (goodIn_of _ (by decide +kernel)) ggX7_way_X7_steps
set_option maxRecDepth 20000 in
theorem ggX7_way_X7_inputsOf : GoodIn wsX7_way wsX7_inputsOf := goodIn_r _ [20, 21, 22, 23, 24, 28, 29, 30, 31, 32, 33, 34, 35, 36, 37, 38, 39, 40, 41, 42, 43, 44, 45, 46, 47, 48, 49, 50, 51, 52, 53, 54, 55, 56, 57, 58, 59, 60, 61, 62, 63, 64, 65, 66, 67, 68, 69, 70, 71, 72, 73, 74, 75] (by decide +kernel) (by decide +kernel)
set_option maxRecDepth 20000 in
theorem gX7_way_X7_inputsOf : GoodIn wsX7_way (wsV RX7 257 RX7 yX7_inputsOf wsX7_inputsOf) := goodIn_app (goodIn_of _ (by decide +kernel)) ggX7_way_X7_inputsOf
set_option maxRecDepth 20000 in
theorem ggX7_way_X7_has : GoodIn wsX7_way wsX7_has := goodIn_r _ [27] (by decide +kernel) (by decide +kernel)
set_option maxRecDepth 20000 in
theorem gX7_way_X7_has : GoodIn wsX7_way (va_wsS RX7 260 yX7_has wsX7_has) := goodIn_app (goodIn_of _ (by decide +kernel)) ggX7_way_X7_has
theorem dX7_way_0 : decode cX7_way 0 = .ok (.aload_n 0, 1) := by decide +kernel
theorem dX7_way_1 : decode cX7_way 1 = .ok (.iload_n 1, 1) := by decide +kernel
theorem dX7_way_2 : decode cX7_way 2 = .ok (.invokestatic 144, 3) := by decide +kernel
theorem dX7_way_5 : decode cX7_way 5 = .ok (.ifCond .eq 14, 3) := by decide +kernel
theorem dX7_way_8 : decode cX7_way 8 = .ok (.iload_n 2, 1) := by decide +kernel
theorem dX7_way_9 : decode cX7_way 9 = .ok (.invokestatic 144, 3) := by decide +kernel
theorem dX7_way_12 : decode cX7_way 12 = .ok (.ifCond .eq 7, 3) := by decide +kernel
theorem dX7_way_15 : decode cX7_way 15 = .ok (.iload_n 3, 1) := by decide +kernel
theorem dX7_way_16 : decode cX7_way 16 = .ok (.ifCond .ge 7, 3) := by decide +kernel
theorem dX7_way_19 : decode cX7_way 19 = .ok (.iconst 1, 1) := by decide +kernel
theorem dX7_way_20 : decode cX7_way 20 = .ok (.goto 13, 3) := by decide +kernel
theorem dX7_way_23 : decode cX7_way 23 = .ok (.iload_n 1, 1) := by decide +kernel
theorem dX7_way_24 : decode cX7_way 24 = .ok (.iload_n 2, 1) := by decide +kernel
theorem dX7_way_25 : decode cX7_way 25 = .ok (.if_icmp .ne 7, 3) := by decide +kernel
theorem dX7_way_28 : decode cX7_way 28 = .ok (.iconst 2, 1) := by decide +kernel
theorem dX7_way_29 : decode cX7_way 29 = .ok (.goto 4, 3) := by decide +kernel
theorem dX7_way_32 : decode cX7_way 32 = .ok (.iconst 0, 1) := by decide +kernel
theorem dX7_way_33 : decode cX7_way 33 = .ok (.invokevirtual 140, 3) := by decide +kernel
theorem dX7_way_36 : decode cX7_way 36 = .ok (.ifCond .ne 5, 3) := by decide +kernel
theorem dX7_way_39 : decode cX7_way 39 = .ok (.iconst 0, 1) := by decide +kernel
theorem dX7_way_40 : decode cX7_way 40 = .ok (.ireturn, 1) := by decide +kernel
theorem dX7_way_41 : decode cX7_way 41 = .ok (.aload_n 0, 1) := by decide +kernel
theorem dX7_way_42 : decode cX7_way 42 = .ok (.iload_n 1, 1) := by decide +kernel
theorem dX7_way_43 : decode cX7_way 43 = .ok (.iload_n 2, 1) := by decide +kernel
theorem dX7_way_44 : decode cX7_way 44 = .ok (.invokevirtual 266, 3) := by decide +kernel
theorem dX7_way_47 : decode cX7_way 47 = .ok (.istore 4, 2) := by decide +kernel
theorem dX7_way_49 : decode cX7_way 49 = .ok (.iload 4, 2) := by decide +kernel
theorem dX7_way_51 : decode cX7_way 51 = .ok (.iconst (-1), 1) := by decide +kernel
theorem dX7_way_52 : decode cX7_way 52 = .ok (.if_icmp .eq 9, 3) := by decide +kernel
theorem dX7_way_55 : decode cX7_way 55 = .ok (.iload_n 3, 1) := by decide +kernel
theorem dX7_way_56 : decode cX7_way 56 = .ok (.iload 4, 2) := by decide +kernel
theorem dX7_way_58 : decode cX7_way 58 = .ok (.if_icmp .le 5, 3) := by decide +kernel
theorem dX7_way_61 : decode cX7_way 61 = .ok (.iconst (-1), 1) := by decide +kernel
theorem dX7_way_62 : decode cX7_way 62 = .ok (.ireturn, 1) := by decide +kernel
theorem dX7_way_63 : decode cX7_way 63 = .ok (.iload_n 1, 1) := by decide +kernel
theorem dX7_way_64 : decode cX7_way 64 = .ok (.istore 5, 2) := by decide +kernel
theorem dX7_way_66 : decode cX7_way 66 = .ok (.iconst 0, 1) := by decide +kernel
theorem dX7_way_67 : decode cX7_way 67 = .ok (.istore 6, 2) := by decide +kernel
theorem dX7_way_69 : decode cX7_way 69 = .ok (.iload 6, 2) := by decide +kernel
theorem dX7_way_71 : decode cX7_way 71 = .ok (.iload_n 3, 1) := by decide +kernel
theorem dX7_way_72 : decode cX7_way 72 = .ok (.if_icmp .ge 101, 3) := by decide +kernel
theorem dX7_way_75 : decode cX7_way 75 = .ok (.iinc 4 (-1), 3) := by decide +kernel
theorem dX7_way_78 : decode cX7_way 78 = .ok (.iconst (-1), 1) := by decide +kernel
theorem dX7_way_79 : decode cX7_way 79 = .ok (.istore 7, 2) := by decide +kernel
theorem dX7_way_81 : decode cX7_way 81 = .ok (.bipush 15, 2) := by decide +kernel
theorem dX7_way_83 : decode cX7_way 83 = .ok (.istore 8, 2) := by decide +kernel
theorem dX7_way_85 : decode cX7_way 85 = .ok (.iload 8, 2) := by decide +kernel
theorem dX7_way_87 : decode cX7_way 87 = .ok (.ifCond .lt 76, 3) := by decide +kernel
theorem dX7_way_90 : decode cX7_way 90 = .ok (.aload_n 0, 1) := by decide +kernel
theorem dX7_way_91 : decode cX7_way 91 = .ok (.iload 5, 2) := by decide +kernel
theorem dX7_way_93 : decode cX7_way 93 = .ok (.invokevirtual 257, 3) := by decide +kernel
theorem dX7_way_96 : decode cX7_way 96 = .ok (.iload 8, 2) := by decide +kernel
theorem dX7_way_98 : decode cX7_way 98 = .ok (.invokestatic 260, 3) := by decide +kernel
theorem dX7_way_101 : decode cX7_way 101 = .ok (.ifCond .eq 39, 3) := by decide +kernel
theorem dX7_way_104 : decode cX7_way 104 = .ok (.iload 4, 2) := by decide +kernel
theorem dX7_way_106 : decode cX7_way 106 = .ok (.ifCond .ne 12, 3) := by decide +kernel
theorem dX7_way_109 : decode cX7_way 109 = .ok (.iload 8, 2) := by decide +kernel
theorem dX7_way_111 : decode cX7_way 111 = .ok (.iload_n 2, 1) := by decide +kernel
theorem dX7_way_112 : decode cX7_way 112 = .ok (.if_icmp .ne 28, 3) := by decide +kernel
theorem dX7_way_115 : decode cX7_way 115 = .ok (.goto 21, 3) := by decide +kernel
theorem dX7_way_118 : decode cX7_way 118 = .ok (.iload 8, 2) := by decide +kernel
theorem dX7_way_120 : decode cX7_way 120 = .ok (.iload_n 2, 1) := by decide +kernel
theorem dX7_way_121 : decode cX7_way 121 = .ok (.if_icmp .eq 19, 3) := by decide +kernel
theorem dX7_way_124 : decode cX7_way 124 = .ok (.aload_n 0, 1) := by decide +kernel
theorem dX7_way_125 : decode cX7_way 125 = .ok (.iload 8, 2) := by decide +kernel
theorem dX7_way_127 : decode cX7_way 127 = .ok (.iload_n 2, 1) := by decide +kernel
theorem dX7_way_128 : decode cX7_way 128 = .ok (.invokevirtual 266, 3) := by decide +kernel
theorem dX7_way_131 : decode cX7_way 131 = .ok (.iload 4, 2) := by decide +kernel
theorem dX7_way_133 : decode cX7_way 133 = .ok (.if_icmp .ne 7, 3) := by decide +kernel
theorem dX7_way_136 : decode cX7_way 136 = .ok (.iconst 1, 1) := by decide +kernel
theorem dX7_way_137 : decode cX7_way 137 = .ok (.goto 4, 3) := by decide +kernel
theorem dX7_way_140 : decode cX7_way 140 = .ok (.iconst 0, 1) := by decide +kernel
theorem dX7_way_141 : decode cX7_way 141 = .ok (.istore 9, 2) := by decide +kernel
theorem dX7_way_143 : decode cX7_way 143 = .ok (.iload 9, 2) := by decide +kernel
theorem dX7_way_145 : decode cX7_way 145 = .ok (.ifCond .eq 8, 3) := by decide +kernel
theorem dX7_way_148 : decode cX7_way 148 = .ok (.iload 8, 2) := by decide +kernel
theorem dX7_way_150 : decode cX7_way 150 = .ok (.goto 5, 3) := by decide +kernel
theorem dX7_way_153 : decode cX7_way 153 = .ok (.iload 7, 2) := by decide +kernel
theorem dX7_way_155 : decode cX7_way 155 = .ok (.istore 7, 2) := by decide +kernel
theorem dX7_way_157 : decode cX7_way 157 = .ok (.iinc 8 (-1), 3) := by decide +kernel
theorem dX7_way_160 : decode cX7_way 160 = .ok (.goto (-75), 3) := by decide +kernel
theorem dX7_way_163 : decode cX7_way 163 = .ok (.iload 7, 2) := by decide +kernel
theorem dX7_way_165 : decode cX7_way 165 = .ok (.istore 5, 2) := by decide +kernel
theorem dX7_way_167 : decode cX7_way 167 = .ok (.iinc 6 1, 3) := by decide +kernel
theorem dX7_way_170 : decode cX7_way 170 = .ok (.goto (-101), 3) := by decide +kernel
theorem dX7_way_173 : decode cX7_way 173 = .ok (.iload 5, 2) := by decide +kernel
theorem dX7_way_175 : decode cX7_way 175 = .ok (.ireturn, 1) := by decide +kernel
set_option maxRecDepth 20000 in
theorem ggX7_laysNeeded_X7_nodeOf : GoodIn wsX7_laysNeeded wsX7_nodeOf := goodIn_r _ [10] (by decide +kernel) (by decide +kernel)
set_option maxRecDepth 20000 in
theorem gX7_laysNeeded_X7_nodeOf : GoodIn wsX7_laysNeeded (va_wsS RX7 182 yX7_nodeOf wsX7_nodeOf) := goodIn_app (goodIn_of _ (by decide +kernel)) ggX7_laysNeeded_X7_nodeOf
theorem dX7_laysNeeded_0 : decode cX7_laysNeeded 0 = .ok (.iconst 0, 1) := by decide +kernel
theorem dX7_laysNeeded_1 : decode cX7_laysNeeded 1 = .ok (.istore_n 1, 1) := by decide +kernel
theorem dX7_laysNeeded_2 : decode cX7_laysNeeded 2 = .ok (.iload_n 1, 1) := by decide +kernel
theorem dX7_laysNeeded_3 : decode cX7_laysNeeded 3 = .ok (.bipush 32, 2) := by decide +kernel
theorem dX7_laysNeeded_5 : decode cX7_laysNeeded 5 = .ok (.if_icmp .ge 127, 3) := by decide +kernel
theorem dX7_laysNeeded_8 : decode cX7_laysNeeded 8 = .ok (.aload_n 0, 1) := by decide +kernel
theorem dX7_laysNeeded_9 : decode cX7_laysNeeded 9 = .ok (.getfield 123, 3) := by decide +kernel
theorem dX7_laysNeeded_12 : decode cX7_laysNeeded 12 = .ok (.iload_n 1, 1) := by decide +kernel
theorem dX7_laysNeeded_13 : decode cX7_laysNeeded 13 = .ok (.iconst 0, 1) := by decide +kernel
theorem dX7_laysNeeded_14 : decode cX7_laysNeeded 14 = .ok (.iastore, 1) := by decide +kernel
theorem dX7_laysNeeded_15 : decode cX7_laysNeeded 15 = .ok (.iconst 0, 1) := by decide +kernel
theorem dX7_laysNeeded_16 : decode cX7_laysNeeded 16 = .ok (.istore_n 2, 1) := by decide +kernel
theorem dX7_laysNeeded_17 : decode cX7_laysNeeded 17 = .ok (.iload_n 2, 1) := by decide +kernel
theorem dX7_laysNeeded_18 : decode cX7_laysNeeded 18 = .ok (.aload_n 0, 1) := by decide +kernel
theorem dX7_laysNeeded_19 : decode cX7_laysNeeded 19 = .ok (.getfield 108, 3) := by decide +kernel
theorem dX7_laysNeeded_22 : decode cX7_laysNeeded 22 = .ok (.iload_n 1, 1) := by decide +kernel
theorem dX7_laysNeeded_23 : decode cX7_laysNeeded 23 = .ok (.iaload, 1) := by decide +kernel
theorem dX7_laysNeeded_24 : decode cX7_laysNeeded 24 = .ok (.if_icmp .ge 102, 3) := by decide +kernel
theorem dX7_laysNeeded_27 : decode cX7_laysNeeded 27 = .ok (.aload_n 0, 1) := by decide +kernel
theorem dX7_laysNeeded_28 : decode cX7_laysNeeded 28 = .ok (.getfield 84, 3) := by decide +kernel
theorem dX7_laysNeeded_31 : decode cX7_laysNeeded 31 = .ok (.iload_n 1, 1) := by decide +kernel
theorem dX7_laysNeeded_32 : decode cX7_laysNeeded 32 = .ok (.iaload, 1) := by decide +kernel
theorem dX7_laysNeeded_33 : decode cX7_laysNeeded 33 = .ok (.iconst 2, 1) := by decide +kernel
theorem dX7_laysNeeded_34 : decode cX7_laysNeeded 34 = .ok (.if_icmp .ne 92, 3) := by decide +kernel
theorem dX7_laysNeeded_37 : decode cX7_laysNeeded 37 = .ok (.aload_n 0, 1) := by decide +kernel
theorem dX7_laysNeeded_38 : decode cX7_laysNeeded 38 = .ok (.getfield 111, 3) := by decide +kernel
theorem dX7_laysNeeded_41 : decode cX7_laysNeeded 41 = .ok (.iconst 5, 1) := by decide +kernel
theorem dX7_laysNeeded_42 : decode cX7_laysNeeded 42 = .ok (.iload_n 1, 1) := by decide +kernel
theorem dX7_laysNeeded_43 : decode cX7_laysNeeded 43 = .ok (.imul, 1) := by decide +kernel
theorem dX7_laysNeeded_44 : decode cX7_laysNeeded 44 = .ok (.iload_n 2, 1) := by decide +kernel
theorem dX7_laysNeeded_45 : decode cX7_laysNeeded 45 = .ok (.iadd, 1) := by decide +kernel
theorem dX7_laysNeeded_46 : decode cX7_laysNeeded 46 = .ok (.iaload, 1) := by decide +kernel
theorem dX7_laysNeeded_47 : decode cX7_laysNeeded 47 = .ok (.istore_n 3, 1) := by decide +kernel
theorem dX7_laysNeeded_48 : decode cX7_laysNeeded 48 = .ok (.iconst 4, 1) := by decide +kernel
theorem dX7_laysNeeded_49 : decode cX7_laysNeeded 49 = .ok (.iload_n 1, 1) := by decide +kernel
theorem dX7_laysNeeded_50 : decode cX7_laysNeeded 50 = .ok (.iconst 2, 1) := by decide +kernel
theorem dX7_laysNeeded_51 : decode cX7_laysNeeded 51 = .ok (.idiv, 1) := by decide +kernel
theorem dX7_laysNeeded_52 : decode cX7_laysNeeded 52 = .ok (.imul, 1) := by decide +kernel
theorem dX7_laysNeeded_53 : decode cX7_laysNeeded 53 = .ok (.iload_n 3, 1) := by decide +kernel
theorem dX7_laysNeeded_54 : decode cX7_laysNeeded 54 = .ok (.iadd, 1) := by decide +kernel
theorem dX7_laysNeeded_55 : decode cX7_laysNeeded 55 = .ok (.istore 4, 2) := by decide +kernel
theorem dX7_laysNeeded_57 : decode cX7_laysNeeded 57 = .ok (.iload_n 3, 1) := by decide +kernel
theorem dX7_laysNeeded_58 : decode cX7_laysNeeded 58 = .ok (.iconst 4, 1) := by decide +kernel
theorem dX7_laysNeeded_59 : decode cX7_laysNeeded 59 = .ok (.if_icmp .ge 18, 3) := by decide +kernel
theorem dX7_laysNeeded_62 : decode cX7_laysNeeded 62 = .ok (.aload_n 0, 1) := by decide +kernel
theorem dX7_laysNeeded_63 : decode cX7_laysNeeded 63 = .ok (.getfield 28, 3) := by decide +kernel
theorem dX7_laysNeeded_66 : decode cX7_laysNeeded 66 = .ok (.iload 4, 2) := by decide +kernel
theorem dX7_laysNeeded_68 : decode cX7_laysNeeded 68 = .ok (.iaload, 1) := by decide +kernel
theorem dX7_laysNeeded_69 : decode cX7_laysNeeded 69 = .ok (.iconst 1, 1) := by decide +kernel
theorem dX7_laysNeeded_70 : decode cX7_laysNeeded 70 = .ok (.if_icmp .le 7, 3) := by decide +kernel
theorem dX7_laysNeeded_73 : decode cX7_laysNeeded 73 = .ok (.iconst 1, 1) := by decide +kernel
theorem dX7_laysNeeded_74 : decode cX7_laysNeeded 74 = .ok (.goto 4, 3) := by decide +kernel
theorem dX7_laysNeeded_77 : decode cX7_laysNeeded 77 = .ok (.iconst 0, 1) := by decide +kernel
theorem dX7_laysNeeded_78 : decode cX7_laysNeeded 78 = .ok (.istore 5, 2) := by decide +kernel
theorem dX7_laysNeeded_80 : decode cX7_laysNeeded 80 = .ok (.aload_n 0, 1) := by decide +kernel
theorem dX7_laysNeeded_81 : decode cX7_laysNeeded 81 = .ok (.getfield 123, 3) := by decide +kernel
theorem dX7_laysNeeded_84 : decode cX7_laysNeeded 84 = .ok (.iload_n 1, 1) := by decide +kernel
theorem dX7_laysNeeded_85 : decode cX7_laysNeeded 85 = .ok (.dup2, 1) := by decide +kernel
theorem dX7_laysNeeded_86 : decode cX7_laysNeeded 86 = .ok (.iaload, 1) := by decide +kernel
theorem dX7_laysNeeded_87 : decode cX7_laysNeeded 87 = .ok (.iload 5, 2) := by decide +kernel
theorem dX7_laysNeeded_89 : decode cX7_laysNeeded 89 = .ok (.ifCond .eq 28, 3) := by decide +kernel
theorem dX7_laysNeeded_92 : decode cX7_laysNeeded 92 = .ok (.iconst 1, 1) := by decide +kernel
theorem dX7_laysNeeded_93 : decode cX7_laysNeeded 93 = .ok (.aload_n 0, 1) := by decide +kernel
theorem dX7_laysNeeded_94 : decode cX7_laysNeeded 94 = .ok (.getfield 28, 3) := by decide +kernel
theorem dX7_laysNeeded_97 : decode cX7_laysNeeded 97 = .ok (.iload 4, 2) := by decide +kernel
theorem dX7_laysNeeded_99 : decode cX7_laysNeeded 99 = .ok (.iaload, 1) := by decide +kernel
theorem dX7_laysNeeded_100 : decode cX7_laysNeeded 100 = .ok (.aload_n 0, 1) := by decide +kernel
theorem dX7_laysNeeded_101 : decode cX7_laysNeeded 101 = .ok (.getfield 31, 3) := by decide +kernel
theorem dX7_laysNeeded_104 : decode cX7_laysNeeded 104 = .ok (.iload 4, 2) := by decide +kernel
theorem dX7_laysNeeded_106 : decode cX7_laysNeeded 106 = .ok (.iaload, 1) := by decide +kernel
theorem dX7_laysNeeded_107 : decode cX7_laysNeeded 107 = .ok (.iload_n 1, 1) := by decide +kernel
theorem dX7_laysNeeded_108 : decode cX7_laysNeeded 108 = .ok (.iconst 2, 1) := by decide +kernel
theorem dX7_laysNeeded_109 : decode cX7_laysNeeded 109 = .ok (.irem, 1) := by decide +kernel
theorem dX7_laysNeeded_110 : decode cX7_laysNeeded 110 = .ok (.invokestatic 182, 3) := by decide +kernel
theorem dX7_laysNeeded_113 : decode cX7_laysNeeded 113 = .ok (.ishl, 1) := by decide +kernel
theorem dX7_laysNeeded_114 : decode cX7_laysNeeded 114 = .ok (.goto 4, 3) := by decide +kernel
theorem dX7_laysNeeded_117 : decode cX7_laysNeeded 117 = .ok (.iconst 0, 1) := by decide +kernel
theorem dX7_laysNeeded_118 : decode cX7_laysNeeded 118 = .ok (.ior, 1) := by decide +kernel
theorem dX7_laysNeeded_119 : decode cX7_laysNeeded 119 = .ok (.iastore, 1) := by decide +kernel
theorem dX7_laysNeeded_120 : decode cX7_laysNeeded 120 = .ok (.iinc 2 1, 3) := by decide +kernel
theorem dX7_laysNeeded_123 : decode cX7_laysNeeded 123 = .ok (.goto (-106), 3) := by decide +kernel
theorem dX7_laysNeeded_126 : decode cX7_laysNeeded 126 = .ok (.iinc 1 1, 3) := by decide +kernel
theorem dX7_laysNeeded_129 : decode cX7_laysNeeded 129 = .ok (.goto (-127), 3) := by decide +kernel
theorem dX7_laysNeeded_132 : decode cX7_laysNeeded 132 = .ok (.return_, 1) := by decide +kernel
set_option maxRecDepth 20000 in
theorem ggX7_laysLongest_X7_has : GoodIn wsX7_laysLongest wsX7_has := goodIn_r _ [8] (by decide +kernel) (by decide +kernel)
set_option maxRecDepth 20000 in
theorem gX7_laysLongest_X7_has : GoodIn wsX7_laysLongest (va_wsS RX7 260 yX7_has wsX7_has) := goodIn_app (goodIn_of _ (by decide +kernel)) ggX7_laysLongest_X7_has
theorem dX7_laysLongest_0 : decode cX7_laysLongest 0 = .ok (.iconst 0, 1) := by decide +kernel
theorem dX7_laysLongest_1 : decode cX7_laysLongest 1 = .ok (.istore_n 2, 1) := by decide +kernel
theorem dX7_laysLongest_2 : decode cX7_laysLongest 2 = .ok (.iload_n 2, 1) := by decide +kernel
theorem dX7_laysLongest_3 : decode cX7_laysLongest 3 = .ok (.bipush 32, 2) := by decide +kernel
theorem dX7_laysLongest_5 : decode cX7_laysLongest 5 = .ok (.if_icmp .ge 32, 3) := by decide +kernel
theorem dX7_laysLongest_8 : decode cX7_laysLongest 8 = .ok (.aload_n 0, 1) := by decide +kernel
theorem dX7_laysLongest_9 : decode cX7_laysLongest 9 = .ok (.getfield 126, 3) := by decide +kernel
theorem dX7_laysLongest_12 : decode cX7_laysLongest 12 = .ok (.iload_n 2, 1) := by decide +kernel
theorem dX7_laysLongest_13 : decode cX7_laysLongest 13 = .ok (.iload_n 2, 1) := by decide +kernel
theorem dX7_laysLongest_14 : decode cX7_laysLongest 14 = .ok (.iload_n 1, 1) := by decide +kernel
theorem dX7_laysLongest_15 : decode cX7_laysLongest 15 = .ok (.if_icmp .ne 14, 3) := by decide +kernel
theorem dX7_laysLongest_18 : decode cX7_laysLongest 18 = .ok (.aload_n 0, 1) := by decide +kernel
theorem dX7_laysLongest_19 : decode cX7_laysLongest 19 = .ok (.getfield 22, 3) := by decide +kernel
theorem dX7_laysLongest_22 : decode cX7_laysLongest 22 = .ok (.iload_n 2, 1) := by decide +kernel
theorem dX7_laysLongest_23 : decode cX7_laysLongest 23 = .ok (.iconst 2, 1) := by decide +kernel
theorem dX7_laysLongest_24 : decode cX7_laysLongest 24 = .ok (.idiv, 1) := by decide +kernel
theorem dX7_laysLongest_25 : decode cX7_laysLongest 25 = .ok (.iaload, 1) := by decide +kernel
theorem dX7_laysLongest_26 : decode cX7_laysLongest 26 = .ok (.goto 4, 3) := by decide +kernel
theorem dX7_laysLongest_29 : decode cX7_laysLongest 29 = .ok (.iconst 0, 1) := by decide +kernel
theorem dX7_laysLongest_30 : decode cX7_laysLongest 30 = .ok (.iastore, 1) := by decide +kernel
theorem dX7_laysLongest_31 : decode cX7_laysLongest 31 = .ok (.iinc 2 1, 3) := by decide +kernel
theorem dX7_laysLongest_34 : decode cX7_laysLongest 34 = .ok (.goto (-32), 3) := by decide +kernel
theorem dX7_laysLongest_37 : decode cX7_laysLongest 37 = .ok (.iconst 0, 1) := by decide +kernel
theorem dX7_laysLongest_38 : decode cX7_laysLongest 38 = .ok (.istore_n 2, 1) := by decide +kernel
theorem dX7_laysLongest_39 : decode cX7_laysLongest 39 = .ok (.iload_n 2, 1) := by decide +kernel
theorem dX7_laysLongest_40 : decode cX7_laysLongest 40 = .ok (.bipush 32, 2) := by decide +kernel
theorem dX7_laysLongest_42 : decode cX7_laysLongest 42 = .ok (.if_icmp .ge 132, 3) := by decide +kernel
theorem dX7_laysLongest_45 : decode cX7_laysLongest 45 = .ok (.iconst 0, 1) := by decide +kernel
theorem dX7_laysLongest_46 : decode cX7_laysLongest 46 = .ok (.istore_n 3, 1) := by decide +kernel
theorem dX7_laysLongest_47 : decode cX7_laysLongest 47 = .ok (.iload_n 3, 1) := by decide +kernel
theorem dX7_laysLongest_48 : decode cX7_laysLongest 48 = .ok (.bipush 32, 2) := by decide +kernel
theorem dX7_laysLongest_50 : decode cX7_laysLongest 50 = .ok (.if_icmp .ge 118, 3) := by decide +kernel
theorem dX7_laysLongest_53 : decode cX7_laysLongest 53 = .ok (.iconst 0, 1) := by decide +kernel
theorem dX7_laysLongest_54 : decode cX7_laysLongest 54 = .ok (.istore 4, 2) := by decide +kernel
theorem dX7_laysLongest_56 : decode cX7_laysLongest 56 = .ok (.iload 4, 2) := by decide +kernel
theorem dX7_laysLongest_58 : decode cX7_laysLongest 58 = .ok (.bipush 32, 2) := by decide +kernel
theorem dX7_laysLongest_60 : decode cX7_laysLongest 60 = .ok (.if_icmp .ge 102, 3) := by decide +kernel
theorem dX7_laysLongest_63 : decode cX7_laysLongest 63 = .ok (.aload_n 0, 1) := by decide +kernel
theorem dX7_laysLongest_64 : decode cX7_laysLongest 64 = .ok (.getfield 84, 3) := by decide +kernel
theorem dX7_laysLongest_67 : decode cX7_laysLongest 67 = .ok (.iload 4, 2) := by decide +kernel
theorem dX7_laysLongest_69 : decode cX7_laysLongest 69 = .ok (.iaload, 1) := by decide +kernel
theorem dX7_laysLongest_70 : decode cX7_laysLongest 70 = .ok (.iconst 2, 1) := by decide +kernel
theorem dX7_laysLongest_71 : decode cX7_laysLongest 71 = .ok (.if_icmp .ne 31, 3) := by decide +kernel
theorem dX7_laysLongest_74 : decode cX7_laysLongest 74 = .ok (.aload_n 0, 1) := by decide +kernel
theorem dX7_laysLongest_75 : decode cX7_laysLongest 75 = .ok (.getfield 123, 3) := by decide +kernel
theorem dX7_laysLongest_78 : decode cX7_laysLongest 78 = .ok (.iload 4, 2) := by decide +kernel
theorem dX7_laysLongest_80 : decode cX7_laysLongest 80 = .ok (.iaload, 1) := by decide +kernel
theorem dX7_laysLongest_81 : decode cX7_laysLongest 81 = .ok (.iload_n 3, 1) := by decide +kernel
theorem dX7_laysLongest_82 : decode cX7_laysLongest 82 = .ok (.invokestatic 260, 3) := by decide +kernel
theorem dX7_laysLongest_85 : decode cX7_laysLongest 85 = .ok (.ifCond .eq 17, 3) := by decide +kernel
theorem dX7_laysLongest_88 : decode cX7_laysLongest 88 = .ok (.aload_n 0, 1) := by decide +kernel
theorem dX7_laysLongest_89 : decode cX7_laysLongest 89 = .ok (.getfield 126, 3) := by decide +kernel
theorem dX7_laysLongest_92 : decode cX7_laysLongest 92 = .ok (.iload 4, 2) := by decide +kernel
theorem dX7_laysLongest_94 : decode cX7_laysLongest 94 = .ok (.iaload, 1) := by decide +kernel
theorem dX7_laysLongest_95 : decode cX7_laysLongest 95 = .ok (.ifCond .le 7, 3) := by decide +kernel
theorem dX7_laysLongest_98 : decode cX7_laysLongest 98 = .ok (.iconst 1, 1) := by decide +kernel
theorem dX7_laysLongest_99 : decode cX7_laysLongest 99 = .ok (.goto 4, 3) := by decide +kernel
theorem dX7_laysLongest_102 : decode cX7_laysLongest 102 = .ok (.iconst 0, 1) := by decide +kernel
theorem dX7_laysLongest_103 : decode cX7_laysLongest 103 = .ok (.istore 5, 2) := by decide +kernel
theorem dX7_laysLongest_105 : decode cX7_laysLongest 105 = .ok (.aload_n 0, 1) := by decide +kernel
theorem dX7_laysLongest_106 : decode cX7_laysLongest 106 = .ok (.getfield 126, 3) := by decide +kernel
theorem dX7_laysLongest_109 : decode cX7_laysLongest 109 = .ok (.iload 4, 2) := by decide +kernel
theorem dX7_laysLongest_111 : decode cX7_laysLongest 111 = .ok (.iaload, 1) := by decide +kernel
theorem dX7_laysLongest_112 : decode cX7_laysLongest 112 = .ok (.aload_n 0, 1) := by decide +kernel
theorem dX7_laysLongest_113 : decode cX7_laysLongest 113 = .ok (.getfield 22, 3) := by decide +kernel
theorem dX7_laysLongest_116 : decode cX7_laysLongest 116 = .ok (.iload_n 3, 1) := by decide +kernel
theorem dX7_laysLongest_117 : decode cX7_laysLongest 117 = .ok (.iconst 2, 1) := by decide +kernel
theorem dX7_laysLongest_118 : decode cX7_laysLongest 118 = .ok (.idiv, 1) := by decide +kernel
theorem dX7_laysLongest_119 : decode cX7_laysLongest 119 = .ok (.iaload, 1) := by decide +kernel
theorem dX7_laysLongest_120 : decode cX7_laysLongest 120 = .ok (.iadd, 1) := by decide +kernel
theorem dX7_laysLongest_121 : decode cX7_laysLongest 121 = .ok (.istore 6, 2) := by decide +kernel
theorem dX7_laysLongest_123 : decode cX7_laysLongest 123 = .ok (.aload_n 0, 1) := by decide +kernel
theorem dX7_laysLongest_124 : decode cX7_laysLongest 124 = .ok (.getfield 126, 3) := by decide +kernel
theorem dX7_laysLongest_127 : decode cX7_laysLongest 127 = .ok (.iload_n 3, 1) := by decide +kernel
theorem dX7_laysLongest_128 : decode cX7_laysLongest 128 = .ok (.iload 5, 2) := by decide +kernel
theorem dX7_laysLongest_130 : decode cX7_laysLongest 130 = .ok (.ifCond .eq 19, 3) := by decide +kernel
theorem dX7_laysLongest_133 : decode cX7_laysLongest 133 = .ok (.iload 6, 2) := by decide +kernel
theorem dX7_laysLongest_135 : decode cX7_laysLongest 135 = .ok (.aload_n 0, 1) := by decide +kernel
theorem dX7_laysLongest_136 : decode cX7_laysLongest 136 = .ok (.getfield 126, 3) := by decide +kernel
theorem dX7_laysLongest_139 : decode cX7_laysLongest 139 = .ok (.iload_n 3, 1) := by decide +kernel
theorem dX7_laysLongest_140 : decode cX7_laysLongest 140 = .ok (.iaload, 1) := by decide +kernel
theorem dX7_laysLongest_141 : decode cX7_laysLongest 141 = .ok (.if_icmp .le 8, 3) := by decide +kernel
theorem dX7_laysLongest_144 : decode cX7_laysLongest 144 = .ok (.iload 6, 2) := by decide +kernel
theorem dX7_laysLongest_146 : decode cX7_laysLongest 146 = .ok (.goto 9, 3) := by decide +kernel
theorem dX7_laysLongest_149 : decode cX7_laysLongest 149 = .ok (.aload_n 0, 1) := by decide +kernel
theorem dX7_laysLongest_150 : decode cX7_laysLongest 150 = .ok (.getfield 126, 3) := by decide +kernel
theorem dX7_laysLongest_153 : decode cX7_laysLongest 153 = .ok (.iload_n 3, 1) := by decide +kernel
theorem dX7_laysLongest_154 : decode cX7_laysLongest 154 = .ok (.iaload, 1) := by decide +kernel
theorem dX7_laysLongest_155 : decode cX7_laysLongest 155 = .ok (.iastore, 1) := by decide +kernel
theorem dX7_laysLongest_156 : decode cX7_laysLongest 156 = .ok (.iinc 4 1, 3) := by decide +kernel
theorem dX7_laysLongest_159 : decode cX7_laysLongest 159 = .ok (.goto (-103), 3) := by decide +kernel
theorem dX7_laysLongest_162 : decode cX7_laysLongest 162 = .ok (.iinc 3 1, 3) := by decide +kernel
theorem dX7_laysLongest_165 : decode cX7_laysLongest 165 = .ok (.goto (-118), 3) := by decide +kernel
theorem dX7_laysLongest_168 : decode cX7_laysLongest 168 = .ok (.iinc 2 1, 3) := by decide +kernel
theorem dX7_laysLongest_171 : decode cX7_laysLongest 171 = .ok (.goto (-132), 3) := by decide +kernel
theorem dX7_laysLongest_174 : decode cX7_laysLongest 174 = .ok (.return_, 1) := by decide +kernel
set_option maxRecDepth 20000 in
theorem ggX7_beginsNext_X7_has : GoodIn wsX7_beginsNext wsX7_has := goodIn_r _ [8] (by decide +kernel) (by decide +kernel)
set_option maxRecDepth 20000 in
theorem gX7_beginsNext_X7_has : GoodIn wsX7_beginsNext (va_wsS RX7 260 yX7_has wsX7_has) := goodIn_app (goodIn_of _ (by decide +kernel)) ggX7_beginsNext_X7_has
theorem dX7_beginsNext_0 : decode cX7_beginsNext 0 = .ok (.iconst (-1), 1) := by decide +kernel
theorem dX7_beginsNext_1 : decode cX7_beginsNext 1 = .ok (.istore_n 2, 1) := by decide +kernel
theorem dX7_beginsNext_2 : decode cX7_beginsNext 2 = .ok (.bipush 31, 2) := by decide +kernel
theorem dX7_beginsNext_4 : decode cX7_beginsNext 4 = .ok (.istore_n 3, 1) := by decide +kernel
theorem dX7_beginsNext_5 : decode cX7_beginsNext 5 = .ok (.iload_n 3, 1) := by decide +kernel
theorem dX7_beginsNext_6 : decode cX7_beginsNext 6 = .ok (.ifCond .lt 129, 3) := by decide +kernel
theorem dX7_beginsNext_9 : decode cX7_beginsNext 9 = .ok (.aload_n 0, 1) := by decide +kernel
theorem dX7_beginsNext_10 : decode cX7_beginsNext 10 = .ok (.getfield 84, 3) := by decide +kernel
theorem dX7_beginsNext_13 : decode cX7_beginsNext 13 = .ok (.iload_n 3, 1) := by decide +kernel
theorem dX7_beginsNext_14 : decode cX7_beginsNext 14 = .ok (.iaload, 1) := by decide +kernel
theorem dX7_beginsNext_15 : decode cX7_beginsNext 15 = .ok (.iconst 2, 1) := by decide +kernel
theorem dX7_beginsNext_16 : decode cX7_beginsNext 16 = .ok (.if_icmp .ne 16, 3) := by decide +kernel
theorem dX7_beginsNext_19 : decode cX7_beginsNext 19 = .ok (.aload_n 0, 1) := by decide +kernel
theorem dX7_beginsNext_20 : decode cX7_beginsNext 20 = .ok (.getfield 129, 3) := by decide +kernel
theorem dX7_beginsNext_23 : decode cX7_beginsNext 23 = .ok (.iload_n 3, 1) := by decide +kernel
theorem dX7_beginsNext_24 : decode cX7_beginsNext 24 = .ok (.iaload, 1) := by decide +kernel
theorem dX7_beginsNext_25 : decode cX7_beginsNext 25 = .ok (.ifCond .ne 7, 3) := by decide +kernel
theorem dX7_beginsNext_28 : decode cX7_beginsNext 28 = .ok (.iconst 1, 1) := by decide +kernel
theorem dX7_beginsNext_29 : decode cX7_beginsNext 29 = .ok (.goto 4, 3) := by decide +kernel
theorem dX7_beginsNext_32 : decode cX7_beginsNext 32 = .ok (.iconst 0, 1) := by decide +kernel
theorem dX7_beginsNext_33 : decode cX7_beginsNext 33 = .ok (.istore 4, 2) := by decide +kernel
theorem dX7_beginsNext_35 : decode cX7_beginsNext 35 = .ok (.iconst 0, 1) := by decide +kernel
theorem dX7_beginsNext_36 : decode cX7_beginsNext 36 = .ok (.istore 5, 2) := by decide +kernel
theorem dX7_beginsNext_38 : decode cX7_beginsNext 38 = .ok (.iload 5, 2) := by decide +kernel
theorem dX7_beginsNext_40 : decode cX7_beginsNext 40 = .ok (.bipush 32, 2) := by decide +kernel
theorem dX7_beginsNext_42 : decode cX7_beginsNext 42 = .ok (.if_icmp .ge 56, 3) := by decide +kernel
theorem dX7_beginsNext_45 : decode cX7_beginsNext 45 = .ok (.iload 4, 2) := by decide +kernel
theorem dX7_beginsNext_47 : decode cX7_beginsNext 47 = .ok (.ifCond .eq 42, 3) := by decide +kernel
theorem dX7_beginsNext_50 : decode cX7_beginsNext 50 = .ok (.aload_n 0, 1) := by decide +kernel
theorem dX7_beginsNext_51 : decode cX7_beginsNext 51 = .ok (.getfield 123, 3) := by decide +kernel
theorem dX7_beginsNext_54 : decode cX7_beginsNext 54 = .ok (.iload_n 3, 1) := by decide +kernel
theorem dX7_beginsNext_55 : decode cX7_beginsNext 55 = .ok (.iaload, 1) := by decide +kernel
theorem dX7_beginsNext_56 : decode cX7_beginsNext 56 = .ok (.iload 5, 2) := by decide +kernel
theorem dX7_beginsNext_58 : decode cX7_beginsNext 58 = .ok (.invokestatic 260, 3) := by decide +kernel
theorem dX7_beginsNext_61 : decode cX7_beginsNext 61 = .ok (.ifCond .eq 24, 3) := by decide +kernel
theorem dX7_beginsNext_64 : decode cX7_beginsNext 64 = .ok (.aload_n 0, 1) := by decide +kernel
theorem dX7_beginsNext_65 : decode cX7_beginsNext 65 = .ok (.getfield 129, 3) := by decide +kernel
theorem dX7_beginsNext_68 : decode cX7_beginsNext 68 = .ok (.iload 5, 2) := by decide +kernel
theorem dX7_beginsNext_70 : decode cX7_beginsNext 70 = .ok (.iaload, 1) := by decide +kernel
theorem dX7_beginsNext_71 : decode cX7_beginsNext 71 = .ok (.ifCond .le 18, 3) := by decide +kernel
theorem dX7_beginsNext_74 : decode cX7_beginsNext 74 = .ok (.aload_n 0, 1) := by decide +kernel
theorem dX7_beginsNext_75 : decode cX7_beginsNext 75 = .ok (.getfield 129, 3) := by decide +kernel
theorem dX7_beginsNext_78 : decode cX7_beginsNext 78 = .ok (.iload 5, 2) := by decide +kernel
theorem dX7_beginsNext_80 : decode cX7_beginsNext 80 = .ok (.iaload, 1) := by decide +kernel
theorem dX7_beginsNext_81 : decode cX7_beginsNext 81 = .ok (.iload_n 1, 1) := by decide +kernel
theorem dX7_beginsNext_82 : decode cX7_beginsNext 82 = .ok (.if_icmp .gt 7, 3) := by decide +kernel
theorem dX7_beginsNext_85 : decode cX7_beginsNext 85 = .ok (.iconst 1, 1) := by decide +kernel
theorem dX7_beginsNext_86 : decode cX7_beginsNext 86 = .ok (.goto 4, 3) := by decide +kernel
theorem dX7_beginsNext_89 : decode cX7_beginsNext 89 = .ok (.iconst 0, 1) := by decide +kernel
theorem dX7_beginsNext_90 : decode cX7_beginsNext 90 = .ok (.istore 4, 2) := by decide +kernel
theorem dX7_beginsNext_92 : decode cX7_beginsNext 92 = .ok (.iinc 5 1, 3) := by decide +kernel
theorem dX7_beginsNext_95 : decode cX7_beginsNext 95 = .ok (.goto (-57), 3) := by decide +kernel
theorem dX7_beginsNext_98 : decode cX7_beginsNext 98 = .ok (.iload 4, 2) := by decide +kernel
theorem dX7_beginsNext_100 : decode cX7_beginsNext 100 = .ok (.ifCond .eq 27, 3) := by decide +kernel
theorem dX7_beginsNext_103 : decode cX7_beginsNext 103 = .ok (.iload_n 2, 1) := by decide +kernel
theorem dX7_beginsNext_104 : decode cX7_beginsNext 104 = .ok (.iconst (-1), 1) := by decide +kernel
theorem dX7_beginsNext_105 : decode cX7_beginsNext 105 = .ok (.if_icmp .eq 18, 3) := by decide +kernel
theorem dX7_beginsNext_108 : decode cX7_beginsNext 108 = .ok (.aload_n 0, 1) := by decide +kernel
theorem dX7_beginsNext_109 : decode cX7_beginsNext 109 = .ok (.getfield 126, 3) := by decide +kernel
theorem dX7_beginsNext_112 : decode cX7_beginsNext 112 = .ok (.iload_n 3, 1) := by decide +kernel
theorem dX7_beginsNext_113 : decode cX7_beginsNext 113 = .ok (.iaload, 1) := by decide +kernel
theorem dX7_beginsNext_114 : decode cX7_beginsNext 114 = .ok (.aload_n 0, 1) := by decide +kernel
theorem dX7_beginsNext_115 : decode cX7_beginsNext 115 = .ok (.getfield 126, 3) := by decide +kernel
theorem dX7_beginsNext_118 : decode cX7_beginsNext 118 = .ok (.iload_n 2, 1) := by decide +kernel
theorem dX7_beginsNext_119 : decode cX7_beginsNext 119 = .ok (.iaload, 1) := by decide +kernel
theorem dX7_beginsNext_120 : decode cX7_beginsNext 120 = .ok (.if_icmp .lt 7, 3) := by decide +kernel
theorem dX7_beginsNext_123 : decode cX7_beginsNext 123 = .ok (.iload_n 3, 1) := by decide +kernel
theorem dX7_beginsNext_124 : decode cX7_beginsNext 124 = .ok (.goto 4, 3) := by decide +kernel
theorem dX7_beginsNext_127 : decode cX7_beginsNext 127 = .ok (.iload_n 2, 1) := by decide +kernel
theorem dX7_beginsNext_128 : decode cX7_beginsNext 128 = .ok (.istore_n 2, 1) := by decide +kernel
theorem dX7_beginsNext_129 : decode cX7_beginsNext 129 = .ok (.iinc 3 (-1), 3) := by decide +kernel
theorem dX7_beginsNext_132 : decode cX7_beginsNext 132 = .ok (.goto (-127), 3) := by decide +kernel
theorem dX7_beginsNext_135 : decode cX7_beginsNext 135 = .ok (.iload_n 2, 1) := by decide +kernel
theorem dX7_beginsNext_136 : decode cX7_beginsNext 136 = .ok (.ireturn, 1) := by decide +kernel
theorem dX7_goingAt_0 : decode cX7_goingAt 0 = .ok (.iconst 0, 1) := by decide +kernel
theorem dX7_goingAt_1 : decode cX7_goingAt 1 = .ok (.istore_n 2, 1) := by decide +kernel
theorem dX7_goingAt_2 : decode cX7_goingAt 2 = .ok (.iconst 0, 1) := by decide +kernel
theorem dX7_goingAt_3 : decode cX7_goingAt 3 = .ok (.istore_n 3, 1) := by decide +kernel
theorem dX7_goingAt_4 : decode cX7_goingAt 4 = .ok (.iload_n 3, 1) := by decide +kernel
theorem dX7_goingAt_5 : decode cX7_goingAt 5 = .ok (.bipush 32, 2) := by decide +kernel
theorem dX7_goingAt_7 : decode cX7_goingAt 7 = .ok (.if_icmp .ge 27, 3) := by decide +kernel
theorem dX7_goingAt_10 : decode cX7_goingAt 10 = .ok (.iload_n 2, 1) := by decide +kernel
theorem dX7_goingAt_11 : decode cX7_goingAt 11 = .ok (.aload_n 0, 1) := by decide +kernel
theorem dX7_goingAt_12 : decode cX7_goingAt 12 = .ok (.getfield 129, 3) := by decide +kernel
theorem dX7_goingAt_15 : decode cX7_goingAt 15 = .ok (.iload_n 3, 1) := by decide +kernel
theorem dX7_goingAt_16 : decode cX7_goingAt 16 = .ok (.iaload, 1) := by decide +kernel
theorem dX7_goingAt_17 : decode cX7_goingAt 17 = .ok (.iload_n 1, 1) := by decide +kernel
theorem dX7_goingAt_18 : decode cX7_goingAt 18 = .ok (.if_icmp .le 7, 3) := by decide +kernel
theorem dX7_goingAt_21 : decode cX7_goingAt 21 = .ok (.iconst 1, 1) := by decide +kernel
theorem dX7_goingAt_22 : decode cX7_goingAt 22 = .ok (.goto 4, 3) := by decide +kernel
theorem dX7_goingAt_25 : decode cX7_goingAt 25 = .ok (.iconst 0, 1) := by decide +kernel
theorem dX7_goingAt_26 : decode cX7_goingAt 26 = .ok (.iadd, 1) := by decide +kernel
theorem dX7_goingAt_27 : decode cX7_goingAt 27 = .ok (.istore_n 2, 1) := by decide +kernel
theorem dX7_goingAt_28 : decode cX7_goingAt 28 = .ok (.iinc 3 1, 3) := by decide +kernel
theorem dX7_goingAt_31 : decode cX7_goingAt 31 = .ok (.goto (-27), 3) := by decide +kernel
theorem dX7_goingAt_34 : decode cX7_goingAt 34 = .ok (.iload_n 2, 1) := by decide +kernel
theorem dX7_goingAt_35 : decode cX7_goingAt 35 = .ok (.ireturn, 1) := by decide +kernel
set_option maxRecDepth 20000 in
theorem ggX7_time_X7_isNode : GoodIn wsX7_time wsX7_isNode := goodIn_r _ [6, 7, 8, 5, 9, 10, 11, 12] (by decide +kernel) (by decide +kernel)
set_option maxRecDepth 20000 in
theorem gX7_time_X7_isNode : GoodIn wsX7_time (va_wsS RX7 248 yX7_isNode wsX7_isNode) := goodIn_app (goodIn_of _ (by decide +kernel)) ggX7_time_X7_isNode
set_option maxRecDepth 20000 in
theorem ggX7_time_X7_isIn : GoodIn wsX7_time wsX7_isIn := goodIn_r _ [12] (by decide +kernel) (by decide +kernel)
set_option maxRecDepth 20000 in
theorem gX7_time_X7_isIn : GoodIn wsX7_time (va_wsS RX7 136 yX7_isIn wsX7_isIn) := goodIn_app (goodIn_of _ (by decide +kernel)) ggX7_time_X7_isIn
set_option maxRecDepth 20000 in
theorem ggX7_time_X7_goes : GoodIn wsX7_time wsX7_goes := goodIn_r _ [16, 17, 171, 172, 173, 174, 175, 176, 177, 178, 179, 180, 181, 182, 183, 184, 185, 186, 187, 188, 189, 190, 191, 192, 193, 194, 195, 196, 197, 198, 199, 200, 201, 202, 203, 204, 205, 206, 207, 208, 209, 210, 211, 212, 213, 214, 215, 216, 217, 218] (by decide +kernel) (by decide +kernel)
set_option maxRecDepth 20000 in
theorem gX7_time_X7_goes : GoodIn wsX7_time (wsV RX7 140 RX7 yX7_goes wsX7_goes) := goodIn_app (goodIn_of _ (by decide +kernel)) ggX7_time_X7_goes
set_option maxRecDepth 20000 in
theorem ggX7_time_X7_looksPlain : GoodIn wsX7_time wsX7_looksPlain := goodIn_r _ [21, 22, 23, 24, 25, 1, 26, 27, 28, 29, 30, 5, 31, 32, 33, 34, 35, 36, 37, 38, 39, 40, 41, 42, 43, 44, 45, 46, 2, 47, 48, 49, 50, 51, 52, 53, 54, 55, 56, 57, 58, 59, 60, 61, 62, 63, 64, 65, 66, 67, 68, 69, 70, 71, 72, 73, 74, 75, 76, 77, 78, 79, 80, 81, 82, 83, 84, 85, 86, 87, 88, 89, 90, 91, 92, 93, 94, 95, 96, 97, 98, 99, 100, 101, 102, 103, 104, 105, 106, 107, 108, 109, 110, 111, 112, 113, 114, 115, 116, 117, 118, 119, 120, 121, 122, 123, 124, 125, 126, 127, 128, 129, 130, 131, 132, 133, 134, 135, 136, 137, 138, 139, 140, 141, 142, 143, 144, 145, 146, 147, 148, 149, 150, 171, 172, 173, 174, 175, 176, 177, 178, 179, 180, 181, 182, 183, 184, 185, 186, 187, 188, 189, 190, 191, 192, 193, 194, 195, 196, 197, 198, 199, 200, 201, 202, 203, 204, 205, 206, 207, 208, 209, 210, 211, 212, 213, 214, 215, 216, 217, 218] rfl (by decide +kernel)
set_option maxRecDepth 20000 in
theorem gX7_time_X7_looksPlain : GoodIn wsX7_time (wsV RX7 254 RX7 yX7_looksPlain wsX7_looksPlain) := goodIn_app (goodIn_of _ (by decide +kernel)) ggX7_time_X7_looksPlain
set_option maxRecDepth 20000 in
theorem ggX7_time_X7_laysNeeded : GoodIn wsX7_time wsX7_laysNeeded := goodIn_r _ [154, 155, 41, 32, 96, 57, 58, 78, 79, 5, 80, 171, 172, 173, 174, 175, 176, 177, 178, 179, 180, 181, 182, 183, 184, 185, 186, 187, 188, 189, 190, 191, 192, 193, 194, 195, 196, 197, 198, 199, 200, 201, 202, 203, 204, 205, 206, 207, 208, 209, 210, 211, 212, 213, 214, 215, 216, 217, 218] (by decide +kernel) (by decide +kernel)
set_option maxRecDepth 20000 in
theorem gX7_time_X7_laysNeeded : GoodIn wsX7_time (wsV RX7 269 RX7 yX7_laysNeeded wsX7_laysNeeded) := goodIn_app (goodIn_of _ (by decide +kernel)) ggX7_time_X7_laysNeeded
set_option maxRecDepth 20000 in
theorem ggX7_time_X7_laysLongest : GoodIn wsX7_time wsX7_laysLongest := goodIn_r _ [159, 24, 2, 32, 155, 160, 161, 5, 162, 171, 172, 173, 174, 175, 176, 177, 178, 179, 180, 181, 182, 183, 184, 185, 186, 187, 188, 189, 190, 191, 192, 193, 194, 195, 196, 197, 198, 199, 200, 201, 202, 203, 204, 205, 206, 207, 208, 209, 210, 211, 212, 213, 214, 215, 216, 217, 218] (by decide +kernel) (by decide +kernel)
set_option maxRecDepth 20000 in
theorem gX7_time_X7_laysLongest : GoodIn wsX7_time (wsV RX7 272 RX7 yX7_laysLongest wsX7_laysLongest) := goodIn_app (goodIn_of _ (by decide +kernel)) ggX7_time_X7_laysLongest
set_option maxRecDepth 20000 in
theorem ggX7_time_X7_goingAt : GoodIn wsX7_time wsX7_goingAt := goodIn_r _ [166, 1, 171, 172, 173, 174, 175, 176, 177, 178, 179, 180, 181, 182, 183, 184, 185, 186, 187, 188, 189, 190, 191, 192, 193, 194, 195, 196, 197, 198, 199, 200, 201, 202, 203, 204, 205, 206, 207, 208, 209, 210, 211, 212, 213, 214, 215, 216, 217, 218] (by decide +kernel) (by decide +kernel)
set_option maxRecDepth 20000 in
theorem gX7_time_X7_goingAt : GoodIn wsX7_time (wsV RX7 275 RX7 yX7_goingAt wsX7_goingAt) := goodIn_app (goodIn_of _ (by decide +kernel)) ggX7_time_X7_goingAt
set_option maxRecDepth 20000 in
theorem ggX7_time_X7_beginsNext : GoodIn wsX7_time wsX7_beginsNext := goodIn_r _ [170, 32, 1, 155, 24, 160, 161, 5, 162, 171, 172, 173, 174, 175, 176, 177, 178, 179, 180, 181, 182, 183, 184, 185, 186, 187, 188, 189, 190, 191, 192, 193, 194, 195, 196, 197, 198, 199, 200, 201, 202, 203, 204, 205, 206, 207, 208, 209, 210, 211, 212, 213, 214, 215, 216, 217, 218] (by decide +kernel) (by decide +kernel)
set_option maxRecDepth 20000 in
theorem gX7_time_X7_beginsNext : GoodIn wsX7_time (wsV RX7 278 RX7 yX7_beginsNext wsX7_beginsNext) := goodIn_app (goodIn_of _ (by decide +kernel)) ggX7_time_X7_beginsNext
theorem dX7_time_0 : decode cX7_time 0 = .ok (.aload_n 0, 1) := by decide +kernel
theorem dX7_time_1 : decode cX7_time 1 = .ok (.iload_n 1, 1) := by decide +kernel
theorem dX7_time_2 : decode cX7_time 2 = .ok (.iload_n 2, 1) := by decide +kernel
theorem dX7_time_3 : decode cX7_time 3 = .ok (.invokestatic 248, 3) := by decide +kernel
theorem dX7_time_6 : decode cX7_time 6 = .ok (.ifCond .ne 7, 3) := by decide +kernel
theorem dX7_time_9 : decode cX7_time 9 = .ok (.iconst 1, 1) := by decide +kernel
theorem dX7_time_10 : decode cX7_time 10 = .ok (.goto 17, 3) := by decide +kernel
theorem dX7_time_13 : decode cX7_time 13 = .ok (.iload_n 3, 1) := by decide +kernel
theorem dX7_time_14 : decode cX7_time 14 = .ok (.iconst 1, 1) := by decide +kernel
theorem dX7_time_15 : decode cX7_time 15 = .ok (.iconst 3, 1) := by decide +kernel
theorem dX7_time_16 : decode cX7_time 16 = .ok (.invokestatic 136, 3) := by decide +kernel
theorem dX7_time_19 : decode cX7_time 19 = .ok (.ifCond .eq 7, 3) := by decide +kernel
theorem dX7_time_22 : decode cX7_time 22 = .ok (.iconst 0, 1) := by decide +kernel
theorem dX7_time_23 : decode cX7_time 23 = .ok (.goto 4, 3) := by decide +kernel
theorem dX7_time_26 : decode cX7_time 26 = .ok (.iconst 2, 1) := by decide +kernel
theorem dX7_time_27 : decode cX7_time 27 = .ok (.invokevirtual 140, 3) := by decide +kernel
theorem dX7_time_30 : decode cX7_time 30 = .ok (.ifCond .ne 5, 3) := by decide +kernel
theorem dX7_time_33 : decode cX7_time 33 = .ok (.iconst 0, 1) := by decide +kernel
theorem dX7_time_34 : decode cX7_time 34 = .ok (.ireturn, 1) := by decide +kernel
theorem dX7_time_35 : decode cX7_time 35 = .ok (.iconst 2, 1) := by decide +kernel
theorem dX7_time_36 : decode cX7_time 36 = .ok (.iload_n 1, 1) := by decide +kernel
theorem dX7_time_37 : decode cX7_time 37 = .ok (.imul, 1) := by decide +kernel
theorem dX7_time_38 : decode cX7_time 38 = .ok (.iload_n 2, 1) := by decide +kernel
theorem dX7_time_39 : decode cX7_time 39 = .ok (.iadd, 1) := by decide +kernel
theorem dX7_time_40 : decode cX7_time 40 = .ok (.istore 4, 2) := by decide +kernel
theorem dX7_time_42 : decode cX7_time 42 = .ok (.aload_n 0, 1) := by decide +kernel
theorem dX7_time_43 : decode cX7_time 43 = .ok (.iload 4, 2) := by decide +kernel
theorem dX7_time_45 : decode cX7_time 45 = .ok (.invokevirtual 254, 3) := by decide +kernel
theorem dX7_time_48 : decode cX7_time 48 = .ok (.ifCond .ge 5, 3) := by decide +kernel
theorem dX7_time_51 : decode cX7_time 51 = .ok (.iconst (-1), 1) := by decide +kernel
theorem dX7_time_52 : decode cX7_time 52 = .ok (.ireturn, 1) := by decide +kernel
theorem dX7_time_53 : decode cX7_time 53 = .ok (.aload_n 0, 1) := by decide +kernel
theorem dX7_time_54 : decode cX7_time 54 = .ok (.invokevirtual 269, 3) := by decide +kernel
theorem dX7_time_57 : decode cX7_time 57 = .ok (.aload_n 0, 1) := by decide +kernel
theorem dX7_time_58 : decode cX7_time 58 = .ok (.iload 4, 2) := by decide +kernel
theorem dX7_time_60 : decode cX7_time 60 = .ok (.invokevirtual 272, 3) := by decide +kernel
theorem dX7_time_63 : decode cX7_time 63 = .ok (.iconst 0, 1) := by decide +kernel
theorem dX7_time_64 : decode cX7_time 64 = .ok (.istore 5, 2) := by decide +kernel
theorem dX7_time_66 : decode cX7_time 66 = .ok (.iload 5, 2) := by decide +kernel
theorem dX7_time_68 : decode cX7_time 68 = .ok (.bipush 32, 2) := by decide +kernel
theorem dX7_time_70 : decode cX7_time 70 = .ok (.if_icmp .ge 17, 3) := by decide +kernel
theorem dX7_time_73 : decode cX7_time 73 = .ok (.aload_n 0, 1) := by decide +kernel
theorem dX7_time_74 : decode cX7_time 74 = .ok (.getfield 129, 3) := by decide +kernel
theorem dX7_time_77 : decode cX7_time 77 = .ok (.iload 5, 2) := by decide +kernel
theorem dX7_time_79 : decode cX7_time 79 = .ok (.iconst 0, 1) := by decide +kernel
theorem dX7_time_80 : decode cX7_time 80 = .ok (.iastore, 1) := by decide +kernel
theorem dX7_time_81 : decode cX7_time 81 = .ok (.iinc 5 1, 3) := by decide +kernel
theorem dX7_time_84 : decode cX7_time 84 = .ok (.goto (-18), 3) := by decide +kernel
theorem dX7_time_87 : decode cX7_time 87 = .ok (.iconst 0, 1) := by decide +kernel
theorem dX7_time_88 : decode cX7_time 88 = .ok (.istore 5, 2) := by decide +kernel
theorem dX7_time_90 : decode cX7_time 90 = .ok (.aload_n 0, 1) := by decide +kernel
theorem dX7_time_91 : decode cX7_time 91 = .ok (.getfield 129, 3) := by decide +kernel
theorem dX7_time_94 : decode cX7_time 94 = .ok (.iload 4, 2) := by decide +kernel
theorem dX7_time_96 : decode cX7_time 96 = .ok (.iaload, 1) := by decide +kernel
theorem dX7_time_97 : decode cX7_time 97 = .ok (.ifCond .ne 59, 3) := by decide +kernel
theorem dX7_time_100 : decode cX7_time 100 = .ok (.aload_n 0, 1) := by decide +kernel
theorem dX7_time_101 : decode cX7_time 101 = .ok (.iload 5, 2) := by decide +kernel
theorem dX7_time_103 : decode cX7_time 103 = .ok (.invokevirtual 275, 3) := by decide +kernel
theorem dX7_time_106 : decode cX7_time 106 = .ok (.iload_n 3, 1) := by decide +kernel
theorem dX7_time_107 : decode cX7_time 107 = .ok (.if_icmp .ge 12, 3) := by decide +kernel
theorem dX7_time_110 : decode cX7_time 110 = .ok (.aload_n 0, 1) := by decide +kernel
theorem dX7_time_111 : decode cX7_time 111 = .ok (.iload 5, 2) := by decide +kernel
theorem dX7_time_113 : decode cX7_time 113 = .ok (.invokevirtual 278, 3) := by decide +kernel
theorem dX7_time_116 : decode cX7_time 116 = .ok (.goto 4, 3) := by decide +kernel
theorem dX7_time_119 : decode cX7_time 119 = .ok (.iconst (-1), 1) := by decide +kernel
theorem dX7_time_120 : decode cX7_time 120 = .ok (.istore 6, 2) := by decide +kernel
theorem dX7_time_122 : decode cX7_time 122 = .ok (.iload 6, 2) := by decide +kernel
theorem dX7_time_124 : decode cX7_time 124 = .ok (.iconst (-1), 1) := by decide +kernel
theorem dX7_time_125 : decode cX7_time 125 = .ok (.if_icmp .ne 9, 3) := by decide +kernel
theorem dX7_time_128 : decode cX7_time 128 = .ok (.iinc 5 1, 3) := by decide +kernel
theorem dX7_time_131 : decode cX7_time 131 = .ok (.goto 22, 3) := by decide +kernel
theorem dX7_time_134 : decode cX7_time 134 = .ok (.aload_n 0, 1) := by decide +kernel
theorem dX7_time_135 : decode cX7_time 135 = .ok (.getfield 129, 3) := by decide +kernel
theorem dX7_time_138 : decode cX7_time 138 = .ok (.iload 6, 2) := by decide +kernel
theorem dX7_time_140 : decode cX7_time 140 = .ok (.iload 5, 2) := by decide +kernel
theorem dX7_time_142 : decode cX7_time 142 = .ok (.aload_n 0, 1) := by decide +kernel
theorem dX7_time_143 : decode cX7_time 143 = .ok (.getfield 22, 3) := by decide +kernel
theorem dX7_time_146 : decode cX7_time 146 = .ok (.iload 6, 2) := by decide +kernel
theorem dX7_time_148 : decode cX7_time 148 = .ok (.iconst 2, 1) := by decide +kernel
theorem dX7_time_149 : decode cX7_time 149 = .ok (.idiv, 1) := by decide +kernel
theorem dX7_time_150 : decode cX7_time 150 = .ok (.iaload, 1) := by decide +kernel
theorem dX7_time_151 : decode cX7_time 151 = .ok (.iadd, 1) := by decide +kernel
theorem dX7_time_152 : decode cX7_time 152 = .ok (.iastore, 1) := by decide +kernel
theorem dX7_time_153 : decode cX7_time 153 = .ok (.goto (-63), 3) := by decide +kernel
theorem dX7_time_156 : decode cX7_time 156 = .ok (.aload_n 0, 1) := by decide +kernel
theorem dX7_time_157 : decode cX7_time 157 = .ok (.getfield 129, 3) := by decide +kernel
theorem dX7_time_160 : decode cX7_time 160 = .ok (.iload 4, 2) := by decide +kernel
theorem dX7_time_162 : decode cX7_time 162 = .ok (.iaload, 1) := by decide +kernel
theorem dX7_time_163 : decode cX7_time 163 = .ok (.ireturn, 1) := by decide +kernel
set_option maxRecDepth 20000 in
theorem ggL_write_X6_write : GoodIn wsL_write wsX6_write := goodIn_ca (goodIn_ca (goodIn_r _ [7, 8, 9, 10, 11, 12, 13, 14, 6, 15, 16, 17, 18, 19, 20, 21, 22, 23, 24, 25, 26, 27, 28, 29, 30, 31, 32, 33, 34, 35, 36, 37, 38, 39, 40, 41, 42, 43, 44] (by decide +kernel) (by decide +kernel)) (goodIn_sub (fun _ h => List.mem_cons_of_mem _ (List.mem_append_left _ (List.mem_append_right _ h))) (by decide +kernel))) (goodIn_sub (fun _ h => List.mem_cons_of_mem _ (List.mem_append_right _ h)) (by decide +kernel))
set_option maxRecDepth 20000 in
theorem gL_write_X6_write : GoodIn wsL_write (wsV RL 7 RX6 yX6_write wsX6_write) := goodIn_app (goodIn_of _ (by decide +kernel)) ggL_write_X6_write
