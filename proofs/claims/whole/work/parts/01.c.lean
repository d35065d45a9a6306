theorem dX2_valueNow_38 : decode cX2_valueNow 38 = .ok (.iload_n 1, 1) := by decide +kernel
theorem dX2_valueNow_39 : decode cX2_valueNow 39 = .ok (.iload_n 2, 1) := by decide +kernel
theorem dX2_valueNow_40 : decode cX2_valueNow 40 = .ok (.iload_n 3, 1) := by decide +kernel
theorem dX2_valueNow_41 : decode cX2_valueNow 41 = .ok (.invokestatic 130, 3) := by decide +kernel
theorem dX2_valueNow_44 : decode cX2_valueNow 44 = .ok (.iload 4, 2) := by decide +kernel
theorem dX2_valueNow_46 : decode cX2_valueNow 46 = .ok (.iconst 1, 1) := by decide +kernel
theorem dX2_valueNow_47 : decode cX2_valueNow 47 = .ok (.iadd, 1) := by decide +kernel
theorem dX2_valueNow_48 : decode cX2_valueNow 48 = .ok (.invokevirtual 52, 3) := by decide +kernel
theorem dX2_valueNow_51 : decode cX2_valueNow 51 = .ok (.ireturn, 1) := by decide +kernel
set_option maxRecDepth 20000 in
theorem ggX2_readInputs_X4_clear : GoodIn wsX2_readInputs wsX4_clear := goodIn_r _ [7, 8, 9, 10, 11, 183, 184, 185, 186] (by decide +kernel) (by decide +kernel)
set_option maxRecDepth 20000 in
theorem gX2_readInputs_X4_clear : GoodIn wsX2_readInputs (wsV RX2 48 RX4 yX4_clear wsX4_clear) := goodIn_app (goodIn_of _ (by decide +kernel)) ggX2_readInputs_X4_clear
set_option maxRecDepth 20000 in
theorem ggX2_readInputs_X4_copy : GoodIn wsX2_readInputs wsX4_copy := goodIn_r _ [15, 9, 16, 17, 18, 6, 19, 8, 10, 11, 20, 21, 22, 23, 183, 184, 185, 186] (by decide +kernel) (by decide +kernel)
set_option maxRecDepth 20000 in
theorem gX2_readInputs_X4_copy : GoodIn wsX2_readInputs (wsV RX2 110 RX4 yX4_copy wsX4_copy) := goodIn_app (goodIn_of _ (by decide +kernel)) ggX2_readInputs_X4_copy
set_option maxRecDepth 20000 in
theorem ggX2_readInputs_X4_get : GoodIn wsX2_readInputs wsX4_get := goodIn_r _ [19, 8, 9, 10, 11, 183, 184, 185, 186] (by decide +kernel) (by decide +kernel)
set_option maxRecDepth 20000 in
theorem gX2_readInputs_X4_get : GoodIn wsX2_readInputs (wsV RX2 59 RX4 yX4_get wsX4_get) := goodIn_app (goodIn_of _ (by decide +kernel)) ggX2_readInputs_X4_get
set_option maxRecDepth 20000 in
theorem ggX2_readInputs_X4_set : GoodIn wsX2_readInputs wsX4_set := goodIn_r _ [23, 8, 9, 10, 183, 184, 185, 186] (by decide +kernel) (by decide +kernel)
set_option maxRecDepth 20000 in
theorem gX2_readInputs_X4_set : GoodIn wsX2_readInputs (wsV RX2 62 RX4 yX4_set wsX4_set) := goodIn_app (goodIn_of _ (by decide +kernel)) ggX2_readInputs_X4_set
set_option maxRecDepth 20000 in
theorem ggX2_readInputs_X2_read : GoodIn wsX2_readInputs wsX2_read := goodIn_r _ [158, 1, 111, 24, 17, 18, 6, 19, 8, 9, 10, 11, 25, 21, 22, 23, 147, 148, 149, 29, 38, 39, 40, 41, 42, 43, 44, 45, 46, 47, 48, 49, 50, 51, 52, 53, 54, 55, 3, 4, 5, 7, 56, 57, 58, 59, 60, 61, 62, 63, 64, 65, 66, 67, 68, 69, 70, 71, 72, 73, 74, 75, 76, 77, 78, 16, 79, 80, 81, 82, 12, 13, 14, 15, 20, 83, 84, 85, 86, 87, 88, 89, 90, 91, 92, 93, 94, 95, 96, 97, 98, 99, 100, 101, 102, 103, 104, 105, 106, 107, 108, 109, 110, 30, 31, 32, 33, 34, 35, 36, 37, 112, 113, 114, 115, 116, 117, 118, 119, 120, 121, 122, 123, 124, 125, 126, 127, 128, 129, 130, 131, 132, 133, 134, 135, 136, 137, 138, 139, 140, 141, 142, 143, 144, 145, 146, 150, 151, 152, 153, 154, 155, 156, 157, 0, 2, 26, 27, 28, 159, 160, 161, 162, 163, 164, 165, 166, 167, 168, 169, 170, 171, 172, 173, 174, 175, 176, 177, 178, 179, 180, 181, 182, 183, 184, 185, 186, 187, 188, 189, 190, 191, 192, 193] (by decide +kernel) (by decide +kernel)
set_option maxRecDepth 20000 in
theorem gX2_readInputs_X2_read : GoodIn wsX2_readInputs (wsV RX2 133 RX2 yX2_read wsX2_read) := goodIn_app (goodIn_of _ (by decide +kernel)) ggX2_readInputs_X2_read
set_option maxRecDepth 20000 in
theorem ggX2_readInputs_X2_sumOfReads : GoodIn wsX2_readInputs wsX2_sumOfReads := goodIn_r _ [33, 1, 24, 17, 18, 6, 19, 8, 9, 10, 11, 34, 35, 36, 29, 37, 173, 174, 175, 176, 177, 178, 179, 180, 181, 182, 183, 184, 185, 186] (by decide +kernel) (by decide +kernel)
set_option maxRecDepth 20000 in
theorem gX2_readInputs_X2_sumOfReads : GoodIn wsX2_readInputs (wsV RX2 136 RX2 yX2_sumOfReads wsX2_sumOfReads) := goodIn_app (goodIn_of _ (by decide +kernel)) ggX2_readInputs_X2_sumOfReads
theorem dX2_readInputs_0 : decode cX2_readInputs 0 = .ok (.aload_n 0, 1) := by decide +kernel
theorem dX2_readInputs_1 : decode cX2_readInputs 1 = .ok (.getfield 20, 3) := by decide +kernel
theorem dX2_readInputs_4 : decode cX2_readInputs 4 = .ok (.iload_n 1, 1) := by decide +kernel
theorem dX2_readInputs_5 : decode cX2_readInputs 5 = .ok (.invokevirtual 48, 3) := by decide +kernel
theorem dX2_readInputs_8 : decode cX2_readInputs 8 = .ok (.aload_n 0, 1) := by decide +kernel
theorem dX2_readInputs_9 : decode cX2_readInputs 9 = .ok (.getfield 20, 3) := by decide +kernel
theorem dX2_readInputs_12 : decode cX2_readInputs 12 = .ok (.iload_n 1, 1) := by decide +kernel
theorem dX2_readInputs_13 : decode cX2_readInputs 13 = .ok (.aload_n 0, 1) := by decide +kernel
theorem dX2_readInputs_14 : decode cX2_readInputs 14 = .ok (.getfield 26, 3) := by decide +kernel
theorem dX2_readInputs_17 : decode cX2_readInputs 17 = .ok (.iload_n 1, 1) := by decide +kernel
theorem dX2_readInputs_18 : decode cX2_readInputs 18 = .ok (.iconst 2, 1) := by decide +kernel
theorem dX2_readInputs_19 : decode cX2_readInputs 19 = .ok (.idiv, 1) := by decide +kernel
theorem dX2_readInputs_20 : decode cX2_readInputs 20 = .ok (.invokevirtual 110, 3) := by decide +kernel
theorem dX2_readInputs_23 : decode cX2_readInputs 23 = .ok (.aload_n 0, 1) := by decide +kernel
theorem dX2_readInputs_24 : decode cX2_readInputs 24 = .ok (.getfield 20, 3) := by decide +kernel
theorem dX2_readInputs_27 : decode cX2_readInputs 27 = .ok (.iload_n 1, 1) := by decide +kernel
theorem dX2_readInputs_28 : decode cX2_readInputs 28 = .ok (.iconst 1, 1) := by decide +kernel
theorem dX2_readInputs_29 : decode cX2_readInputs 29 = .ok (.invokevirtual 59, 3) := by decide +kernel
theorem dX2_readInputs_32 : decode cX2_readInputs 32 = .ok (.istore_n 3, 1) := by decide +kernel
theorem dX2_readInputs_33 : decode cX2_readInputs 33 = .ok (.iload_n 3, 1) := by decide +kernel
theorem dX2_readInputs_34 : decode cX2_readInputs 34 = .ok (.iconst (-1), 1) := by decide +kernel
theorem dX2_readInputs_35 : decode cX2_readInputs 35 = .ok (.if_icmp .ne 6, 3) := by decide +kernel
theorem dX2_readInputs_38 : decode cX2_readInputs 38 = .ok (.bipush (-2), 2) := by decide +kernel
theorem dX2_readInputs_40 : decode cX2_readInputs 40 = .ok (.ireturn, 1) := by decide +kernel
theorem dX2_readInputs_41 : decode cX2_readInputs 41 = .ok (.iload_n 1, 1) := by decide +kernel
theorem dX2_readInputs_42 : decode cX2_readInputs 42 = .ok (.iconst 2, 1) := by decide +kernel
theorem dX2_readInputs_43 : decode cX2_readInputs 43 = .ok (.irem, 1) := by decide +kernel
theorem dX2_readInputs_44 : decode cX2_readInputs 44 = .ok (.istore 4, 2) := by decide +kernel
theorem dX2_readInputs_46 : decode cX2_readInputs 46 = .ok (.aload_n 0, 1) := by decide +kernel
theorem dX2_readInputs_47 : decode cX2_readInputs 47 = .ok (.getfield 20, 3) := by decide +kernel
theorem dX2_readInputs_50 : decode cX2_readInputs 50 = .ok (.iload_n 1, 1) := by decide +kernel
theorem dX2_readInputs_51 : decode cX2_readInputs 51 = .ok (.bipush 13, 2) := by decide +kernel
theorem dX2_readInputs_53 : decode cX2_readInputs 53 = .ok (.iload 4, 2) := by decide +kernel
theorem dX2_readInputs_55 : decode cX2_readInputs 55 = .ok (.invokevirtual 62, 3) := by decide +kernel
theorem dX2_readInputs_58 : decode cX2_readInputs 58 = .ok (.aload_n 0, 1) := by decide +kernel
theorem dX2_readInputs_59 : decode cX2_readInputs 59 = .ok (.getfield 20, 3) := by decide +kernel
theorem dX2_readInputs_62 : decode cX2_readInputs 62 = .ok (.iload_n 1, 1) := by decide +kernel
theorem dX2_readInputs_63 : decode cX2_readInputs 63 = .ok (.bipush 14, 2) := by decide +kernel
theorem dX2_readInputs_65 : decode cX2_readInputs 65 = .ok (.iconst 0, 1) := by decide +kernel
theorem dX2_readInputs_66 : decode cX2_readInputs 66 = .ok (.invokevirtual 62, 3) := by decide +kernel
theorem dX2_readInputs_69 : decode cX2_readInputs 69 = .ok (.aload_n 0, 1) := by decide +kernel
theorem dX2_readInputs_70 : decode cX2_readInputs 70 = .ok (.getfield 20, 3) := by decide +kernel
theorem dX2_readInputs_73 : decode cX2_readInputs 73 = .ok (.iload_n 1, 1) := by decide +kernel
theorem dX2_readInputs_74 : decode cX2_readInputs 74 = .ok (.iconst 4, 1) := by decide +kernel
theorem dX2_readInputs_75 : decode cX2_readInputs 75 = .ok (.invokevirtual 59, 3) := by decide +kernel
theorem dX2_readInputs_78 : decode cX2_readInputs 78 = .ok (.istore 5, 2) := by decide +kernel
theorem dX2_readInputs_80 : decode cX2_readInputs 80 = .ok (.iload_n 3, 1) := by decide +kernel
theorem dX2_readInputs_81 : decode cX2_readInputs 81 = .ok (.iconst 2, 1) := by decide +kernel
theorem dX2_readInputs_82 : decode cX2_readInputs 82 = .ok (.if_icmp .ne 8, 3) := by decide +kernel
theorem dX2_readInputs_85 : decode cX2_readInputs 85 = .ok (.iload 4, 2) := by decide +kernel
theorem dX2_readInputs_87 : decode cX2_readInputs 87 = .ok (.goto 4, 3) := by decide +kernel
theorem dX2_readInputs_90 : decode cX2_readInputs 90 = .ok (.iconst 0, 1) := by decide +kernel
theorem dX2_readInputs_91 : decode cX2_readInputs 91 = .ok (.istore 6, 2) := by decide +kernel
theorem dX2_readInputs_93 : decode cX2_readInputs 93 = .ok (.iload_n 3, 1) := by decide +kernel
theorem dX2_readInputs_94 : decode cX2_readInputs 94 = .ok (.iconst 2, 1) := by decide +kernel
theorem dX2_readInputs_95 : decode cX2_readInputs 95 = .ok (.if_icmp .ne 19, 3) := by decide +kernel
theorem dX2_readInputs_98 : decode cX2_readInputs 98 = .ok (.iload 5, 2) := by decide +kernel
theorem dX2_readInputs_100 : decode cX2_readInputs 100 = .ok (.iload 6, 2) := by decide +kernel
theorem dX2_readInputs_102 : decode cX2_readInputs 102 = .ok (.iconst 1, 1) := by decide +kernel
theorem dX2_readInputs_103 : decode cX2_readInputs 103 = .ok (.iadd, 1) := by decide +kernel
theorem dX2_readInputs_104 : decode cX2_readInputs 104 = .ok (.if_icmp .le 10, 3) := by decide +kernel
theorem dX2_readInputs_107 : decode cX2_readInputs 107 = .ok (.iload 6, 2) := by decide +kernel
theorem dX2_readInputs_109 : decode cX2_readInputs 109 = .ok (.iconst 1, 1) := by decide +kernel
theorem dX2_readInputs_110 : decode cX2_readInputs 110 = .ok (.iadd, 1) := by decide +kernel
theorem dX2_readInputs_111 : decode cX2_readInputs 111 = .ok (.goto 5, 3) := by decide +kernel
theorem dX2_readInputs_114 : decode cX2_readInputs 114 = .ok (.iload 5, 2) := by decide +kernel
theorem dX2_readInputs_116 : decode cX2_readInputs 116 = .ok (.istore 7, 2) := by decide +kernel
theorem dX2_readInputs_118 : decode cX2_readInputs 118 = .ok (.iload 6, 2) := by decide +kernel
theorem dX2_readInputs_120 : decode cX2_readInputs 120 = .ok (.istore 8, 2) := by decide +kernel
theorem dX2_readInputs_122 : decode cX2_readInputs 122 = .ok (.iload 8, 2) := by decide +kernel
theorem dX2_readInputs_124 : decode cX2_readInputs 124 = .ok (.iload 7, 2) := by decide +kernel
theorem dX2_readInputs_126 : decode cX2_readInputs 126 = .ok (.if_icmp .ge 63, 3) := by decide +kernel
theorem dX2_readInputs_129 : decode cX2_readInputs 129 = .ok (.iload 8, 2) := by decide +kernel
theorem dX2_readInputs_131 : decode cX2_readInputs 131 = .ok (.iconst 4, 1) := by decide +kernel
theorem dX2_readInputs_132 : decode cX2_readInputs 132 = .ok (.if_icmp .ge 57, 3) := by decide +kernel
theorem dX2_readInputs_135 : decode cX2_readInputs 135 = .ok (.iconst 5, 1) := by decide +kernel
theorem dX2_readInputs_136 : decode cX2_readInputs 136 = .ok (.iload 8, 2) := by decide +kernel
theorem dX2_readInputs_138 : decode cX2_readInputs 138 = .ok (.iconst 2, 1) := by decide +kernel
theorem dX2_readInputs_139 : decode cX2_readInputs 139 = .ok (.imul, 1) := by decide +kernel
theorem dX2_readInputs_140 : decode cX2_readInputs 140 = .ok (.iadd, 1) := by decide +kernel
theorem dX2_readInputs_141 : decode cX2_readInputs 141 = .ok (.istore 9, 2) := by decide +kernel
theorem dX2_readInputs_143 : decode cX2_readInputs 143 = .ok (.aload_n 0, 1) := by decide +kernel
theorem dX2_readInputs_144 : decode cX2_readInputs 144 = .ok (.iload_n 1, 1) := by decide +kernel
theorem dX2_readInputs_145 : decode cX2_readInputs 145 = .ok (.aload_n 0, 1) := by decide +kernel
theorem dX2_readInputs_146 : decode cX2_readInputs 146 = .ok (.getfield 20, 3) := by decide +kernel
theorem dX2_readInputs_149 : decode cX2_readInputs 149 = .ok (.iload_n 1, 1) := by decide +kernel
theorem dX2_readInputs_150 : decode cX2_readInputs 150 = .ok (.iload 9, 2) := by decide +kernel
theorem dX2_readInputs_152 : decode cX2_readInputs 152 = .ok (.iconst 0, 1) := by decide +kernel
theorem dX2_readInputs_153 : decode cX2_readInputs 153 = .ok (.iadd, 1) := by decide +kernel
theorem dX2_readInputs_154 : decode cX2_readInputs 154 = .ok (.invokevirtual 59, 3) := by decide +kernel
theorem dX2_readInputs_157 : decode cX2_readInputs 157 = .ok (.aload_n 0, 1) := by decide +kernel
theorem dX2_readInputs_158 : decode cX2_readInputs 158 = .ok (.getfield 20, 3) := by decide +kernel
theorem dX2_readInputs_161 : decode cX2_readInputs 161 = .ok (.iload_n 1, 1) := by decide +kernel
theorem dX2_readInputs_162 : decode cX2_readInputs 162 = .ok (.iload 9, 2) := by decide +kernel
theorem dX2_readInputs_164 : decode cX2_readInputs 164 = .ok (.iconst 1, 1) := by decide +kernel
theorem dX2_readInputs_165 : decode cX2_readInputs 165 = .ok (.iadd, 1) := by decide +kernel
theorem dX2_readInputs_166 : decode cX2_readInputs 166 = .ok (.invokevirtual 59, 3) := by decide +kernel
theorem dX2_readInputs_169 : decode cX2_readInputs 169 = .ok (.iload_n 2, 1) := by decide +kernel
theorem dX2_readInputs_170 : decode cX2_readInputs 170 = .ok (.invokevirtual 133, 3) := by decide +kernel
theorem dX2_readInputs_173 : decode cX2_readInputs 173 = .ok (.istore 10, 2) := by decide +kernel
theorem dX2_readInputs_175 : decode cX2_readInputs 175 = .ok (.iload 10, 2) := by decide +kernel
theorem dX2_readInputs_177 : decode cX2_readInputs 177 = .ok (.ifCond .ge 6, 3) := by decide +kernel
theorem dX2_readInputs_180 : decode cX2_readInputs 180 = .ok (.iload 10, 2) := by decide +kernel
theorem dX2_readInputs_182 : decode cX2_readInputs 182 = .ok (.ireturn, 1) := by decide +kernel
theorem dX2_readInputs_183 : decode cX2_readInputs 183 = .ok (.iinc 8 1, 3) := by decide +kernel
theorem dX2_readInputs_186 : decode cX2_readInputs 186 = .ok (.goto (-64), 3) := by decide +kernel
theorem dX2_readInputs_189 : decode cX2_readInputs 189 = .ok (.iload_n 3, 1) := by decide +kernel
theorem dX2_readInputs_190 : decode cX2_readInputs 190 = .ok (.iconst 3, 1) := by decide +kernel
theorem dX2_readInputs_191 : decode cX2_readInputs 191 = .ok (.if_icmp .ne 21, 3) := by decide +kernel
theorem dX2_readInputs_194 : decode cX2_readInputs 194 = .ok (.aload_n 0, 1) := by decide +kernel
theorem dX2_readInputs_195 : decode cX2_readInputs 195 = .ok (.iload_n 1, 1) := by decide +kernel
theorem dX2_readInputs_196 : decode cX2_readInputs 196 = .ok (.iconst 4, 1) := by decide +kernel
theorem dX2_readInputs_197 : decode cX2_readInputs 197 = .ok (.aload_n 0, 1) := by decide +kernel
theorem dX2_readInputs_198 : decode cX2_readInputs 198 = .ok (.iload_n 1, 1) := by decide +kernel
theorem dX2_readInputs_199 : decode cX2_readInputs 199 = .ok (.invokevirtual 136, 3) := by decide +kernel
theorem dX2_readInputs_202 : decode cX2_readInputs 202 = .ok (.bipush 20, 2) := by decide +kernel
theorem dX2_readInputs_204 : decode cX2_readInputs 204 = .ok (.irem, 1) := by decide +kernel
theorem dX2_readInputs_205 : decode cX2_readInputs 205 = .ok (.iload_n 2, 1) := by decide +kernel
theorem dX2_readInputs_206 : decode cX2_readInputs 206 = .ok (.invokevirtual 133, 3) := by decide +kernel
theorem dX2_readInputs_209 : decode cX2_readInputs 209 = .ok (.goto 4, 3) := by decide +kernel
theorem dX2_readInputs_212 : decode cX2_readInputs 212 = .ok (.iconst 0, 1) := by decide +kernel
theorem dX2_readInputs_213 : decode cX2_readInputs 213 = .ok (.ireturn, 1) := by decide +kernel
set_option maxRecDepth 20000 in
theorem ggX2_read_X4_get : GoodIn wsX2_read wsX4_get := goodIn_r _ [7, 8, 9, 10, 11, 183, 184, 185, 186] (by decide +kernel) (by decide +kernel)
set_option maxRecDepth 20000 in
theorem gX2_read_X4_get : GoodIn wsX2_read (wsV RX2 59 RX4 yX4_get wsX4_get) := goodIn_app (goodIn_of _ (by decide +kernel)) ggX2_read_X4_get
set_option maxRecDepth 20000 in
theorem ggX2_read_X4_set : GoodIn wsX2_read wsX4_set := goodIn_r _ [15, 8, 9, 10, 183, 184, 185, 186] (by decide +kernel) (by decide +kernel)
set_option maxRecDepth 20000 in
theorem gX2_read_X4_set : GoodIn wsX2_read (wsV RX2 62 RX4 yX4_set wsX4_set) := goodIn_app (goodIn_of _ (by decide +kernel)) ggX2_read_X4_set
set_option maxRecDepth 20000 in
theorem ggX2_read_X2_valueNow : GoodIn wsX2_read wsX2_valueNow := goodIn_r _ [159, 2, 111, 112, 113, 114, 4, 5, 6, 7, 8, 9, 10, 11, 160, 161, 162, 163, 164, 165, 166, 167, 19, 20, 21, 22, 23, 1, 24, 25, 26, 12, 13, 14, 15, 3, 27, 28, 29, 30, 31, 32, 33, 34, 35, 36, 37, 38, 39, 40, 41, 42, 43, 44, 45, 46, 47, 48, 49, 50, 51, 52, 53, 54, 55, 56, 57, 58, 59, 60, 61, 62, 63, 64, 65, 66, 67, 68, 69, 70, 71, 72, 73, 74, 75, 76, 77, 78, 79, 80, 81, 82, 83, 84, 85, 86, 87, 88, 89, 90, 91, 92, 93, 94, 95, 96, 97, 98, 99, 100, 101, 102, 103, 104, 105, 106, 107, 108, 109, 110, 115, 116, 117, 118, 119, 120, 121, 122, 123, 124, 125, 126, 127, 128, 129, 130, 131, 132, 133, 134, 135, 136, 137, 138, 139, 140, 141, 142, 143, 144, 145, 16, 17, 18, 146, 147, 148, 149, 150, 151, 152, 153, 0, 154, 155, 156, 157, 158, 168, 169, 170, 171, 172, 173, 174, 175, 176, 177, 178, 179, 180, 181, 182, 183, 184, 185, 186, 187, 188, 189, 190, 191, 192, 193] (by decide +kernel) (by decide +kernel)
set_option maxRecDepth 20000 in
theorem gX2_read_X2_valueNow : GoodIn wsX2_read (wsV RX2 122 RX2 yX2_valueNow wsX2_valueNow) := goodIn_app (goodIn_of _ (by decide +kernel)) ggX2_read_X2_valueNow
theorem dX2_read_0 : decode cX2_read 0 = .ok (.aload_n 0, 1) := by decide +kernel
theorem dX2_read_1 : decode cX2_read 1 = .ok (.getfield 20, 3) := by decide +kernel
theorem dX2_read_4 : decode cX2_read 4 = .ok (.iload_n 1, 1) := by decide +kernel
theorem dX2_read_5 : decode cX2_read 5 = .ok (.bipush 14, 2) := by decide +kernel
theorem dX2_read_7 : decode cX2_read 7 = .ok (.invokevirtual 59, 3) := by decide +kernel
theorem dX2_read_10 : decode cX2_read 10 = .ok (.istore 5, 2) := by decide +kernel
theorem dX2_read_12 : decode cX2_read 12 = .ok (.bipush 15, 2) := by decide +kernel
theorem dX2_read_14 : decode cX2_read 14 = .ok (.iload 5, 2) := by decide +kernel
theorem dX2_read_16 : decode cX2_read 16 = .ok (.bipush 7, 2) := by decide +kernel
theorem dX2_read_18 : decode cX2_read 18 = .ok (.imul, 1) := by decide +kernel
theorem dX2_read_19 : decode cX2_read 19 = .ok (.iadd, 1) := by decide +kernel
theorem dX2_read_20 : decode cX2_read 20 = .ok (.istore 6, 2) := by decide +kernel
theorem dX2_read_22 : decode cX2_read 22 = .ok (.aload_n 0, 1) := by decide +kernel
theorem dX2_read_23 : decode cX2_read 23 = .ok (.getfield 20, 3) := by decide +kernel
theorem dX2_read_26 : decode cX2_read 26 = .ok (.iload_n 1, 1) := by decide +kernel
theorem dX2_read_27 : decode cX2_read 27 = .ok (.bipush 14, 2) := by decide +kernel
theorem dX2_read_29 : decode cX2_read 29 = .ok (.iload 5, 2) := by decide +kernel
theorem dX2_read_31 : decode cX2_read 31 = .ok (.iconst 1, 1) := by decide +kernel
theorem dX2_read_32 : decode cX2_read 32 = .ok (.iadd, 1) := by decide +kernel
theorem dX2_read_33 : decode cX2_read 33 = .ok (.invokevirtual 62, 3) := by decide +kernel
theorem dX2_read_36 : decode cX2_read 36 = .ok (.aload_n 0, 1) := by decide +kernel
theorem dX2_read_37 : decode cX2_read 37 = .ok (.getfield 20, 3) := by decide +kernel
theorem dX2_read_40 : decode cX2_read 40 = .ok (.iload_n 1, 1) := by decide +kernel
theorem dX2_read_41 : decode cX2_read 41 = .ok (.iload 6, 2) := by decide +kernel
theorem dX2_read_43 : decode cX2_read 43 = .ok (.iconst 0, 1) := by decide +kernel
theorem dX2_read_44 : decode cX2_read 44 = .ok (.iadd, 1) := by decide +kernel
theorem dX2_read_45 : decode cX2_read 45 = .ok (.iload_n 2, 1) := by decide +kernel
theorem dX2_read_46 : decode cX2_read 46 = .ok (.invokevirtual 62, 3) := by decide +kernel
theorem dX2_read_49 : decode cX2_read 49 = .ok (.aload_n 0, 1) := by decide +kernel
theorem dX2_read_50 : decode cX2_read 50 = .ok (.getfield 20, 3) := by decide +kernel
theorem dX2_read_53 : decode cX2_read 53 = .ok (.iload_n 1, 1) := by decide +kernel
theorem dX2_read_54 : decode cX2_read 54 = .ok (.iload 6, 2) := by decide +kernel
theorem dX2_read_56 : decode cX2_read 56 = .ok (.iconst 1, 1) := by decide +kernel
theorem dX2_read_57 : decode cX2_read 57 = .ok (.iadd, 1) := by decide +kernel
theorem dX2_read_58 : decode cX2_read 58 = .ok (.iload_n 3, 1) := by decide +kernel
theorem dX2_read_59 : decode cX2_read 59 = .ok (.invokevirtual 62, 3) := by decide +kernel
theorem dX2_read_62 : decode cX2_read 62 = .ok (.iload_n 2, 1) := by decide +kernel
theorem dX2_read_63 : decode cX2_read 63 = .ok (.iconst 1, 1) := by decide +kernel
theorem dX2_read_64 : decode cX2_read 64 = .ok (.if_icmp .eq 41, 3) := by decide +kernel
theorem dX2_read_67 : decode cX2_read 67 = .ok (.aload_n 0, 1) := by decide +kernel
theorem dX2_read_68 : decode cX2_read 68 = .ok (.iload_n 1, 1) := by decide +kernel
theorem dX2_read_69 : decode cX2_read 69 = .ok (.iload_n 2, 1) := by decide +kernel
theorem dX2_read_70 : decode cX2_read 70 = .ok (.iload_n 3, 1) := by decide +kernel
theorem dX2_read_71 : decode cX2_read 71 = .ok (.iload 4, 2) := by decide +kernel
theorem dX2_read_73 : decode cX2_read 73 = .ok (.invokevirtual 122, 3) := by decide +kernel
theorem dX2_read_76 : decode cX2_read 76 = .ok (.istore 7, 2) := by decide +kernel
theorem dX2_read_78 : decode cX2_read 78 = .ok (.aload_n 0, 1) := by decide +kernel
theorem dX2_read_79 : decode cX2_read 79 = .ok (.getfield 20, 3) := by decide +kernel
theorem dX2_read_82 : decode cX2_read 82 = .ok (.iload_n 1, 1) := by decide +kernel
theorem dX2_read_83 : decode cX2_read 83 = .ok (.iload 6, 2) := by decide +kernel
theorem dX2_read_85 : decode cX2_read 85 = .ok (.iconst 2, 1) := by decide +kernel
theorem dX2_read_86 : decode cX2_read 86 = .ok (.iadd, 1) := by decide +kernel
theorem dX2_read_87 : decode cX2_read 87 = .ok (.iload 7, 2) := by decide +kernel
theorem dX2_read_89 : decode cX2_read 89 = .ok (.invokevirtual 62, 3) := by decide +kernel
theorem dX2_read_92 : decode cX2_read 92 = .ok (.iload 7, 2) := by decide +kernel
theorem dX2_read_94 : decode cX2_read 94 = .ok (.iconst (-1), 1) := by decide +kernel
theorem dX2_read_95 : decode cX2_read 95 = .ok (.if_icmp .ge 8, 3) := by decide +kernel
theorem dX2_read_98 : decode cX2_read 98 = .ok (.iload 7, 2) := by decide +kernel
theorem dX2_read_100 : decode cX2_read 100 = .ok (.goto 4, 3) := by decide +kernel
theorem dX2_read_103 : decode cX2_read 103 = .ok (.iconst 0, 1) := by decide +kernel
theorem dX2_read_104 : decode cX2_read 104 = .ok (.ireturn, 1) := by decide +kernel
theorem dX2_read_105 : decode cX2_read 105 = .ok (.iconst 0, 1) := by decide +kernel
theorem dX2_read_106 : decode cX2_read 106 = .ok (.istore 7, 2) := by decide +kernel
theorem dX2_read_108 : decode cX2_read 108 = .ok (.iload 7, 2) := by decide +kernel
theorem dX2_read_110 : decode cX2_read 110 = .ok (.iconst 5, 1) := by decide +kernel
theorem dX2_read_111 : decode cX2_read 111 = .ok (.if_icmp .ge 34, 3) := by decide +kernel
theorem dX2_read_114 : decode cX2_read 114 = .ok (.aload_n 0, 1) := by decide +kernel
theorem dX2_read_115 : decode cX2_read 115 = .ok (.getfield 20, 3) := by decide +kernel
theorem dX2_read_118 : decode cX2_read 118 = .ok (.iload_n 1, 1) := by decide +kernel
theorem dX2_read_119 : decode cX2_read 119 = .ok (.iload 6, 2) := by decide +kernel
theorem dX2_read_121 : decode cX2_read 121 = .ok (.iconst 2, 1) := by decide +kernel
theorem dX2_read_122 : decode cX2_read 122 = .ok (.iadd, 1) := by decide +kernel
theorem dX2_read_123 : decode cX2_read 123 = .ok (.iload 7, 2) := by decide +kernel
theorem dX2_read_125 : decode cX2_read 125 = .ok (.iadd, 1) := by decide +kernel
theorem dX2_read_126 : decode cX2_read 126 = .ok (.aload_n 0, 1) := by decide +kernel
theorem dX2_read_127 : decode cX2_read 127 = .ok (.getfield 23, 3) := by decide +kernel
theorem dX2_read_130 : decode cX2_read 130 = .ok (.iload_n 3, 1) := by decide +kernel
theorem dX2_read_131 : decode cX2_read 131 = .ok (.iload 7, 2) := by decide +kernel
theorem dX2_read_133 : decode cX2_read 133 = .ok (.invokevirtual 59, 3) := by decide +kernel
theorem dX2_read_136 : decode cX2_read 136 = .ok (.invokevirtual 62, 3) := by decide +kernel
theorem dX2_read_139 : decode cX2_read 139 = .ok (.iinc 7 1, 3) := by decide +kernel
theorem dX2_read_142 : decode cX2_read 142 = .ok (.goto (-34), 3) := by decide +kernel
theorem dX2_read_145 : decode cX2_read 145 = .ok (.iconst 0, 1) := by decide +kernel
theorem dX2_read_146 : decode cX2_read 146 = .ok (.ireturn, 1) := by decide +kernel
set_option maxRecDepth 20000 in
theorem ggX2_sumOfReads_X4_get : GoodIn wsX2_sumOfReads wsX4_get := goodIn_r _ [6, 7, 8, 9, 10, 26, 27, 28, 29] (by decide +kernel) (by decide +kernel)
set_option maxRecDepth 20000 in
theorem gX2_sumOfReads_X4_get : GoodIn wsX2_sumOfReads (wsV RX2 59 RX4 yX4_get wsX4_get) := goodIn_app (goodIn_of _ (by decide +kernel)) ggX2_sumOfReads_X4_get
set_option maxRecDepth 20000 in
theorem ggX2_sumOfReads_X2_valueOfRead : GoodIn wsX2_sumOfReads wsX2_valueOfRead := goodIn_r _ [15, 1, 2, 3, 4, 5, 6, 7, 8, 9, 10, 16, 17, 18, 19, 20, 21, 22, 23, 24, 25, 26, 27, 28, 29] (by decide +kernel) (by decide +kernel)
set_option maxRecDepth 20000 in
theorem gX2_sumOfReads_X2_valueOfRead : GoodIn wsX2_sumOfReads (wsV RX2 139 RX2 yX2_valueOfRead wsX2_valueOfRead) := goodIn_app (goodIn_of _ (by decide +kernel)) ggX2_sumOfReads_X2_valueOfRead
theorem dX2_sumOfReads_0 : decode cX2_sumOfReads 0 = .ok (.iconst 0, 1) := by decide +kernel
theorem dX2_sumOfReads_1 : decode cX2_sumOfReads 1 = .ok (.istore_n 2, 1) := by decide +kernel
theorem dX2_sumOfReads_2 : decode cX2_sumOfReads 2 = .ok (.aload_n 0, 1) := by decide +kernel
theorem dX2_sumOfReads_3 : decode cX2_sumOfReads 3 = .ok (.getfield 20, 3) := by decide +kernel
theorem dX2_sumOfReads_6 : decode cX2_sumOfReads 6 = .ok (.iload_n 1, 1) := by decide +kernel
theorem dX2_sumOfReads_7 : decode cX2_sumOfReads 7 = .ok (.bipush 14, 2) := by decide +kernel
theorem dX2_sumOfReads_9 : decode cX2_sumOfReads 9 = .ok (.invokevirtual 59, 3) := by decide +kernel
theorem dX2_sumOfReads_12 : decode cX2_sumOfReads 12 = .ok (.istore_n 3, 1) := by decide +kernel
theorem dX2_sumOfReads_13 : decode cX2_sumOfReads 13 = .ok (.iconst 0, 1) := by decide +kernel
theorem dX2_sumOfReads_14 : decode cX2_sumOfReads 14 = .ok (.istore 4, 2) := by decide +kernel
theorem dX2_sumOfReads_16 : decode cX2_sumOfReads 16 = .ok (.iload 4, 2) := by decide +kernel
theorem dX2_sumOfReads_18 : decode cX2_sumOfReads 18 = .ok (.iload_n 3, 1) := by decide +kernel
theorem dX2_sumOfReads_19 : decode cX2_sumOfReads 19 = .ok (.if_icmp .ge 31, 3) := by decide +kernel
theorem dX2_sumOfReads_22 : decode cX2_sumOfReads 22 = .ok (.iload 4, 2) := by decide +kernel
theorem dX2_sumOfReads_24 : decode cX2_sumOfReads 24 = .ok (.iconst 5, 1) := by decide +kernel
theorem dX2_sumOfReads_25 : decode cX2_sumOfReads 25 = .ok (.if_icmp .ge 25, 3) := by decide +kernel
theorem dX2_sumOfReads_28 : decode cX2_sumOfReads 28 = .ok (.iload_n 2, 1) := by decide +kernel
theorem dX2_sumOfReads_29 : decode cX2_sumOfReads 29 = .ok (.aload_n 0, 1) := by decide +kernel
theorem dX2_sumOfReads_30 : decode cX2_sumOfReads 30 = .ok (.iload_n 1, 1) := by decide +kernel
theorem dX2_sumOfReads_31 : decode cX2_sumOfReads 31 = .ok (.bipush 15, 2) := by decide +kernel
theorem dX2_sumOfReads_33 : decode cX2_sumOfReads 33 = .ok (.iload 4, 2) := by decide +kernel
theorem dX2_sumOfReads_35 : decode cX2_sumOfReads 35 = .ok (.bipush 7, 2) := by decide +kernel
theorem dX2_sumOfReads_37 : decode cX2_sumOfReads 37 = .ok (.imul, 1) := by decide +kernel
theorem dX2_sumOfReads_38 : decode cX2_sumOfReads 38 = .ok (.iadd, 1) := by decide +kernel
theorem dX2_sumOfReads_39 : decode cX2_sumOfReads 39 = .ok (.invokevirtual 139, 3) := by decide +kernel
theorem dX2_sumOfReads_42 : decode cX2_sumOfReads 42 = .ok (.iadd, 1) := by decide +kernel
theorem dX2_sumOfReads_43 : decode cX2_sumOfReads 43 = .ok (.istore_n 2, 1) := by decide +kernel
theorem dX2_sumOfReads_44 : decode cX2_sumOfReads 44 = .ok (.iinc 4 1, 3) := by decide +kernel
theorem dX2_sumOfReads_47 : decode cX2_sumOfReads 47 = .ok (.goto (-31), 3) := by decide +kernel
theorem dX2_sumOfReads_50 : decode cX2_sumOfReads 50 = .ok (.iload_n 2, 1) := by decide +kernel
theorem dX2_sumOfReads_51 : decode cX2_sumOfReads 51 = .ok (.ireturn, 1) := by decide +kernel
set_option maxRecDepth 20000 in
theorem ggX2_valueOfRead_X4_get : GoodIn wsX2_valueOfRead wsX4_get := goodIn_r _ [6, 7, 8, 9, 10, 21, 22, 23, 24] (by decide +kernel) (by decide +kernel)
set_option maxRecDepth 20000 in
theorem gX2_valueOfRead_X4_get : GoodIn wsX2_valueOfRead (wsV RX2 59 RX4 yX4_get wsX4_get) := goodIn_app (goodIn_of _ (by decide +kernel)) ggX2_valueOfRead_X4_get
theorem dX2_valueOfRead_0 : decode cX2_valueOfRead 0 = .ok (.iconst 0, 1) := by decide +kernel
theorem dX2_valueOfRead_1 : decode cX2_valueOfRead 1 = .ok (.istore_n 3, 1) := by decide +kernel
theorem dX2_valueOfRead_2 : decode cX2_valueOfRead 2 = .ok (.iload_n 2, 1) := by decide +kernel
theorem dX2_valueOfRead_3 : decode cX2_valueOfRead 3 = .ok (.iconst 2, 1) := by decide +kernel
theorem dX2_valueOfRead_4 : decode cX2_valueOfRead 4 = .ok (.iadd, 1) := by decide +kernel
theorem dX2_valueOfRead_5 : decode cX2_valueOfRead 5 = .ok (.istore 4, 2) := by decide +kernel
theorem dX2_valueOfRead_7 : decode cX2_valueOfRead 7 = .ok (.iload 4, 2) := by decide +kernel
theorem dX2_valueOfRead_9 : decode cX2_valueOfRead 9 = .ok (.iload_n 2, 1) := by decide +kernel
theorem dX2_valueOfRead_10 : decode cX2_valueOfRead 10 = .ok (.bipush 7, 2) := by decide +kernel
theorem dX2_valueOfRead_12 : decode cX2_valueOfRead 12 = .ok (.iadd, 1) := by decide +kernel
theorem dX2_valueOfRead_13 : decode cX2_valueOfRead 13 = .ok (.if_icmp .ge 36, 3) := by decide +kernel
theorem dX2_valueOfRead_16 : decode cX2_valueOfRead 16 = .ok (.aload_n 0, 1) := by decide +kernel
theorem dX2_valueOfRead_17 : decode cX2_valueOfRead 17 = .ok (.getfield 20, 3) := by decide +kernel
theorem dX2_valueOfRead_20 : decode cX2_valueOfRead 20 = .ok (.iload_n 1, 1) := by decide +kernel
theorem dX2_valueOfRead_21 : decode cX2_valueOfRead 21 = .ok (.iload 4, 2) := by decide +kernel
theorem dX2_valueOfRead_23 : decode cX2_valueOfRead 23 = .ok (.invokevirtual 59, 3) := by decide +kernel
theorem dX2_valueOfRead_26 : decode cX2_valueOfRead 26 = .ok (.istore 5, 2) := by decide +kernel
theorem dX2_valueOfRead_28 : decode cX2_valueOfRead 28 = .ok (.iload_n 3, 1) := by decide +kernel
theorem dX2_valueOfRead_29 : decode cX2_valueOfRead 29 = .ok (.iload 5, 2) := by decide +kernel
theorem dX2_valueOfRead_31 : decode cX2_valueOfRead 31 = .ok (.iconst (-1), 1) := by decide +kernel
theorem dX2_valueOfRead_32 : decode cX2_valueOfRead 32 = .ok (.if_icmp .ne 7, 3) := by decide +kernel
theorem dX2_valueOfRead_35 : decode cX2_valueOfRead 35 = .ok (.iconst 0, 1) := by decide +kernel
theorem dX2_valueOfRead_36 : decode cX2_valueOfRead 36 = .ok (.goto 5, 3) := by decide +kernel
theorem dX2_valueOfRead_39 : decode cX2_valueOfRead 39 = .ok (.iload 5, 2) := by decide +kernel
theorem dX2_valueOfRead_41 : decode cX2_valueOfRead 41 = .ok (.iadd, 1) := by decide +kernel
theorem dX2_valueOfRead_42 : decode cX2_valueOfRead 42 = .ok (.istore_n 3, 1) := by decide +kernel
theorem dX2_valueOfRead_43 : decode cX2_valueOfRead 43 = .ok (.iinc 4 1, 3) := by decide +kernel
theorem dX2_valueOfRead_46 : decode cX2_valueOfRead 46 = .ok (.goto (-39), 3) := by decide +kernel
theorem dX2_valueOfRead_49 : decode cX2_valueOfRead 49 = .ok (.iload_n 3, 1) := by decide +kernel
theorem dX2_valueOfRead_50 : decode cX2_valueOfRead 50 = .ok (.sipush 1000, 3) := by decide +kernel
theorem dX2_valueOfRead_53 : decode cX2_valueOfRead 53 = .ok (.irem, 1) := by decide +kernel
theorem dX2_valueOfRead_54 : decode cX2_valueOfRead 54 = .ok (.ireturn, 1) := by decide +kernel
set_option maxRecDepth 20000 in
theorem ggX2_resultOf_X2_sumOfReads : GoodIn wsX2_resultOf wsX2_sumOfReads := goodIn_r _ [7, 1, 8, 9, 10, 11, 12, 13, 14, 15, 16, 17, 18, 19, 6, 20, 29, 30, 31, 32, 33, 34, 35, 36, 37, 38, 39, 40, 41, 42] (by decide +kernel) (by decide +kernel)
set_option maxRecDepth 20000 in
theorem gX2_resultOf_X2_sumOfReads : GoodIn wsX2_resultOf (wsV RX2 136 RX2 yX2_sumOfReads wsX2_sumOfReads) := goodIn_app (goodIn_of _ (by decide +kernel)) ggX2_resultOf_X2_sumOfReads
set_option maxRecDepth 20000 in
theorem ggX2_resultOf_X4_get : GoodIn wsX2_resultOf wsX4_get := goodIn_r _ [12, 13, 14, 15, 16, 39, 40, 41, 42] (by decide +kernel) (by decide +kernel)
set_option maxRecDepth 20000 in
theorem gX2_resultOf_X4_get : GoodIn wsX2_resultOf (wsV RX2 59 RX4 yX4_get wsX4_get) := goodIn_app (goodIn_of _ (by decide +kernel)) ggX2_resultOf_X4_get
set_option maxRecDepth 20000 in
theorem ggX2_resultOf_X2_seesItsFile : GoodIn wsX2_resultOf wsX2_seesItsFile := goodIn_r _ [24, 1, 8, 9, 10, 11, 12, 13, 14, 15, 16, 29, 30, 31, 32, 33, 34, 35, 36, 37, 38, 39, 40, 41, 42] (by decide +kernel) (by decide +kernel)
set_option maxRecDepth 20000 in
theorem gX2_resultOf_X2_seesItsFile : GoodIn wsX2_resultOf (wsV RX2 142 RX2 yX2_seesItsFile wsX2_seesItsFile) := goodIn_app (goodIn_of _ (by decide +kernel)) ggX2_resultOf_X2_seesItsFile
set_option maxRecDepth 20000 in
theorem ggX2_resultOf_X6_contentOf : GoodIn wsX2_resultOf wsX6_contentOf := goodIn_r _ [27, 28, 9, 10, 11, 12, 13, 14, 15, 16, 39, 40, 41, 42] (by decide +kernel) (by decide +kernel)
set_option maxRecDepth 20000 in
theorem gX2_resultOf_X6_contentOf_n126 : GoodIn wsX2_resultOf (wsX6_contentOf) := ggX2_resultOf_X6_contentOf
theorem dX2_resultOf_0 : decode cX2_resultOf 0 = .ok (.aload_n 0, 1) := by decide +kernel
theorem dX2_resultOf_1 : decode cX2_resultOf 1 = .ok (.iload_n 1, 1) := by decide +kernel
theorem dX2_resultOf_2 : decode cX2_resultOf 2 = .ok (.invokevirtual 136, 3) := by decide +kernel
theorem dX2_resultOf_5 : decode cX2_resultOf 5 = .ok (.istore_n 2, 1) := by decide +kernel
theorem dX2_resultOf_6 : decode cX2_resultOf 6 = .ok (.aload_n 0, 1) := by decide +kernel
theorem dX2_resultOf_7 : decode cX2_resultOf 7 = .ok (.getfield 20, 3) := by decide +kernel
theorem dX2_resultOf_10 : decode cX2_resultOf 10 = .ok (.iload_n 1, 1) := by decide +kernel
theorem dX2_resultOf_11 : decode cX2_resultOf 11 = .ok (.iconst 1, 1) := by decide +kernel
theorem dX2_resultOf_12 : decode cX2_resultOf 12 = .ok (.invokevirtual 59, 3) := by decide +kernel
theorem dX2_resultOf_15 : decode cX2_resultOf 15 = .ok (.istore_n 3, 1) := by decide +kernel
theorem dX2_resultOf_16 : decode cX2_resultOf 16 = .ok (.iload_n 3, 1) := by decide +kernel
theorem dX2_resultOf_17 : decode cX2_resultOf 17 = .ok (.iconst 1, 1) := by decide +kernel
theorem dX2_resultOf_18 : decode cX2_resultOf 18 = .ok (.if_icmp .ne 8, 3) := by decide +kernel
theorem dX2_resultOf_21 : decode cX2_resultOf 21 = .ok (.iload_n 2, 1) := by decide +kernel
theorem dX2_resultOf_22 : decode cX2_resultOf 22 = .ok (.bipush 10, 2) := by decide +kernel
theorem dX2_resultOf_24 : decode cX2_resultOf 24 = .ok (.idiv, 1) := by decide +kernel
theorem dX2_resultOf_25 : decode cX2_resultOf 25 = .ok (.istore_n 2, 1) := by decide +kernel
theorem dX2_resultOf_26 : decode cX2_resultOf 26 = .ok (.iload_n 3, 1) := by decide +kernel
theorem dX2_resultOf_27 : decode cX2_resultOf 27 = .ok (.iconst 4, 1) := by decide +kernel
theorem dX2_resultOf_28 : decode cX2_resultOf 28 = .ok (.if_icmp .ne 47, 3) := by decide +kernel
theorem dX2_resultOf_31 : decode cX2_resultOf 31 = .ok (.aload_n 0, 1) := by decide +kernel
theorem dX2_resultOf_32 : decode cX2_resultOf 32 = .ok (.iload_n 1, 1) := by decide +kernel
theorem dX2_resultOf_33 : decode cX2_resultOf 33 = .ok (.invokevirtual 142, 3) := by decide +kernel
theorem dX2_resultOf_36 : decode cX2_resultOf 36 = .ok (.ifCond .eq 39, 3) := by decide +kernel
theorem dX2_resultOf_39 : decode cX2_resultOf 39 = .ok (.aload_n 0, 1) := by decide +kernel
theorem dX2_resultOf_40 : decode cX2_resultOf 40 = .ok (.getfield 23, 3) := by decide +kernel
theorem dX2_resultOf_43 : decode cX2_resultOf 43 = .ok (.aload_n 0, 1) := by decide +kernel
theorem dX2_resultOf_44 : decode cX2_resultOf 44 = .ok (.getfield 20, 3) := by decide +kernel
theorem dX2_resultOf_47 : decode cX2_resultOf 47 = .ok (.iload_n 1, 1) := by decide +kernel
theorem dX2_resultOf_48 : decode cX2_resultOf 48 = .ok (.iconst 2, 1) := by decide +kernel
theorem dX2_resultOf_49 : decode cX2_resultOf 49 = .ok (.invokevirtual 59, 3) := by decide +kernel
theorem dX2_resultOf_52 : decode cX2_resultOf 52 = .ok (.bipush 20, 2) := by decide +kernel
theorem dX2_resultOf_54 : decode cX2_resultOf 54 = .ok (.irem, 1) := by decide +kernel
theorem dX2_resultOf_55 : decode cX2_resultOf 55 = .ok (.invokestatic 126, 3) := by decide +kernel
theorem dX2_resultOf_58 : decode cX2_resultOf 58 = .ok (.istore 4, 2) := by decide +kernel
theorem dX2_resultOf_60 : decode cX2_resultOf 60 = .ok (.iload_n 2, 1) := by decide +kernel
theorem dX2_resultOf_61 : decode cX2_resultOf 61 = .ok (.iload 4, 2) := by decide +kernel
theorem dX2_resultOf_63 : decode cX2_resultOf 63 = .ok (.iconst (-1), 1) := by decide +kernel
theorem dX2_resultOf_64 : decode cX2_resultOf 64 = .ok (.if_icmp .ne 7, 3) := by decide +kernel
theorem dX2_resultOf_67 : decode cX2_resultOf 67 = .ok (.iconst 0, 1) := by decide +kernel
theorem dX2_resultOf_68 : decode cX2_resultOf 68 = .ok (.goto 5, 3) := by decide +kernel
theorem dX2_resultOf_71 : decode cX2_resultOf 71 = .ok (.iload 4, 2) := by decide +kernel
theorem dX2_resultOf_73 : decode cX2_resultOf 73 = .ok (.iadd, 1) := by decide +kernel
theorem dX2_resultOf_74 : decode cX2_resultOf 74 = .ok (.istore_n 2, 1) := by decide +kernel
theorem dX2_resultOf_75 : decode cX2_resultOf 75 = .ok (.iload_n 2, 1) := by decide +kernel
theorem dX2_resultOf_76 : decode cX2_resultOf 76 = .ok (.aload_n 0, 1) := by decide +kernel
theorem dX2_resultOf_77 : decode cX2_resultOf 77 = .ok (.getfield 20, 3) := by decide +kernel
theorem dX2_resultOf_80 : decode cX2_resultOf 80 = .ok (.iload_n 1, 1) := by decide +kernel
theorem dX2_resultOf_81 : decode cX2_resultOf 81 = .ok (.iconst 3, 1) := by decide +kernel
theorem dX2_resultOf_82 : decode cX2_resultOf 82 = .ok (.invokevirtual 59, 3) := by decide +kernel
theorem dX2_resultOf_85 : decode cX2_resultOf 85 = .ok (.iadd, 1) := by decide +kernel
theorem dX2_resultOf_86 : decode cX2_resultOf 86 = .ok (.sipush 1000, 3) := by decide +kernel
theorem dX2_resultOf_89 : decode cX2_resultOf 89 = .ok (.irem, 1) := by decide +kernel
theorem dX2_resultOf_90 : decode cX2_resultOf 90 = .ok (.ireturn, 1) := by decide +kernel
set_option maxRecDepth 20000 in
theorem ggX2_seesItsFile_X4_get : GoodIn wsX2_seesItsFile wsX4_get := goodIn_r _ [6, 7, 8, 9, 10, 21, 22, 23, 24] (by decide +kernel) (by decide +kernel)
set_option maxRecDepth 20000 in
theorem gX2_seesItsFile_X4_get : GoodIn wsX2_seesItsFile (wsV RX2 59 RX4 yX4_get wsX4_get) := goodIn_app (goodIn_of _ (by decide +kernel)) ggX2_seesItsFile_X4_get
theorem dX2_seesItsFile_0 : decode cX2_seesItsFile 0 = .ok (.aload_n 0, 1) := by decide +kernel
theorem dX2_seesItsFile_1 : decode cX2_seesItsFile 1 = .ok (.getfield 20, 3) := by decide +kernel
theorem dX2_seesItsFile_4 : decode cX2_seesItsFile 4 = .ok (.iload_n 1, 1) := by decide +kernel
theorem dX2_seesItsFile_5 : decode cX2_seesItsFile 5 = .ok (.iconst 2, 1) := by decide +kernel
theorem dX2_seesItsFile_6 : decode cX2_seesItsFile 6 = .ok (.invokevirtual 59, 3) := by decide +kernel
theorem dX2_seesItsFile_9 : decode cX2_seesItsFile 9 = .ok (.bipush 20, 2) := by decide +kernel
theorem dX2_seesItsFile_11 : decode cX2_seesItsFile 11 = .ok (.irem, 1) := by decide +kernel
theorem dX2_seesItsFile_12 : decode cX2_seesItsFile 12 = .ok (.istore_n 2, 1) := by decide +kernel
theorem dX2_seesItsFile_13 : decode cX2_seesItsFile 13 = .ok (.aload_n 0, 1) := by decide +kernel
theorem dX2_seesItsFile_14 : decode cX2_seesItsFile 14 = .ok (.getfield 20, 3) := by decide +kernel
theorem dX2_seesItsFile_17 : decode cX2_seesItsFile 17 = .ok (.iload_n 1, 1) := by decide +kernel
theorem dX2_seesItsFile_18 : decode cX2_seesItsFile 18 = .ok (.iconst 4, 1) := by decide +kernel
theorem dX2_seesItsFile_19 : decode cX2_seesItsFile 19 = .ok (.invokevirtual 59, 3) := by decide +kernel
theorem dX2_seesItsFile_22 : decode cX2_seesItsFile 22 = .ok (.istore_n 3, 1) := by decide +kernel
theorem dX2_seesItsFile_23 : decode cX2_seesItsFile 23 = .ok (.iconst 0, 1) := by decide +kernel
theorem dX2_seesItsFile_24 : decode cX2_seesItsFile 24 = .ok (.istore 4, 2) := by decide +kernel
theorem dX2_seesItsFile_26 : decode cX2_seesItsFile 26 = .ok (.iload 4, 2) := by decide +kernel
theorem dX2_seesItsFile_28 : decode cX2_seesItsFile 28 = .ok (.iload_n 3, 1) := by decide +kernel
theorem dX2_seesItsFile_29 : decode cX2_seesItsFile 29 = .ok (.if_icmp .ge 78, 3) := by decide +kernel
theorem dX2_seesItsFile_32 : decode cX2_seesItsFile 32 = .ok (.iload 4, 2) := by decide +kernel
theorem dX2_seesItsFile_34 : decode cX2_seesItsFile 34 = .ok (.iconst 4, 1) := by decide +kernel
theorem dX2_seesItsFile_35 : decode cX2_seesItsFile 35 = .ok (.if_icmp .ge 72, 3) := by decide +kernel
theorem dX2_seesItsFile_38 : decode cX2_seesItsFile 38 = .ok (.aload_n 0, 1) := by decide +kernel
theorem dX2_seesItsFile_39 : decode cX2_seesItsFile 39 = .ok (.getfield 20, 3) := by decide +kernel
theorem dX2_seesItsFile_42 : decode cX2_seesItsFile 42 = .ok (.iload_n 1, 1) := by decide +kernel
theorem dX2_seesItsFile_43 : decode cX2_seesItsFile 43 = .ok (.iconst 5, 1) := by decide +kernel
theorem dX2_seesItsFile_44 : decode cX2_seesItsFile 44 = .ok (.iload 4, 2) := by decide +kernel
theorem dX2_seesItsFile_46 : decode cX2_seesItsFile 46 = .ok (.iconst 2, 1) := by decide +kernel
theorem dX2_seesItsFile_47 : decode cX2_seesItsFile 47 = .ok (.imul, 1) := by decide +kernel
theorem dX2_seesItsFile_48 : decode cX2_seesItsFile 48 = .ok (.iadd, 1) := by decide +kernel
theorem dX2_seesItsFile_49 : decode cX2_seesItsFile 49 = .ok (.iconst 0, 1) := by decide +kernel
theorem dX2_seesItsFile_50 : decode cX2_seesItsFile 50 = .ok (.iadd, 1) := by decide +kernel
theorem dX2_seesItsFile_51 : decode cX2_seesItsFile 51 = .ok (.invokevirtual 59, 3) := by decide +kernel
theorem dX2_seesItsFile_54 : decode cX2_seesItsFile 54 = .ok (.istore 5, 2) := by decide +kernel
theorem dX2_seesItsFile_56 : decode cX2_seesItsFile 56 = .ok (.aload_n 0, 1) := by decide +kernel
theorem dX2_seesItsFile_57 : decode cX2_seesItsFile 57 = .ok (.getfield 20, 3) := by decide +kernel
theorem dX2_seesItsFile_60 : decode cX2_seesItsFile 60 = .ok (.iload_n 1, 1) := by decide +kernel
theorem dX2_seesItsFile_61 : decode cX2_seesItsFile 61 = .ok (.iconst 5, 1) := by decide +kernel
theorem dX2_seesItsFile_62 : decode cX2_seesItsFile 62 = .ok (.iload 4, 2) := by decide +kernel
theorem dX2_seesItsFile_64 : decode cX2_seesItsFile 64 = .ok (.iconst 2, 1) := by decide +kernel
theorem dX2_seesItsFile_65 : decode cX2_seesItsFile 65 = .ok (.imul, 1) := by decide +kernel
theorem dX2_seesItsFile_66 : decode cX2_seesItsFile 66 = .ok (.iadd, 1) := by decide +kernel
theorem dX2_seesItsFile_67 : decode cX2_seesItsFile 67 = .ok (.iconst 1, 1) := by decide +kernel
theorem dX2_seesItsFile_68 : decode cX2_seesItsFile 68 = .ok (.iadd, 1) := by decide +kernel
theorem dX2_seesItsFile_69 : decode cX2_seesItsFile 69 = .ok (.invokevirtual 59, 3) := by decide +kernel
theorem dX2_seesItsFile_72 : decode cX2_seesItsFile 72 = .ok (.istore 6, 2) := by decide +kernel
theorem dX2_seesItsFile_74 : decode cX2_seesItsFile 74 = .ok (.iload 5, 2) := by decide +kernel
theorem dX2_seesItsFile_76 : decode cX2_seesItsFile 76 = .ok (.ifCond .ne 9, 3) := by decide +kernel
theorem dX2_seesItsFile_79 : decode cX2_seesItsFile 79 = .ok (.iload 6, 2) := by decide +kernel
theorem dX2_seesItsFile_81 : decode cX2_seesItsFile 81 = .ok (.iload_n 2, 1) := by decide +kernel
theorem dX2_seesItsFile_82 : decode cX2_seesItsFile 82 = .ok (.if_icmp .eq 17, 3) := by decide +kernel
theorem dX2_seesItsFile_85 : decode cX2_seesItsFile 85 = .ok (.iload 5, 2) := by decide +kernel
theorem dX2_seesItsFile_87 : decode cX2_seesItsFile 87 = .ok (.iconst 1, 1) := by decide +kernel
theorem dX2_seesItsFile_88 : decode cX2_seesItsFile 88 = .ok (.if_icmp .ne 13, 3) := by decide +kernel
theorem dX2_seesItsFile_91 : decode cX2_seesItsFile 91 = .ok (.iload 6, 2) := by decide +kernel
theorem dX2_seesItsFile_93 : decode cX2_seesItsFile 93 = .ok (.iload_n 2, 1) := by decide +kernel
theorem dX2_seesItsFile_94 : decode cX2_seesItsFile 94 = .ok (.iconst 5, 1) := by decide +kernel
theorem dX2_seesItsFile_95 : decode cX2_seesItsFile 95 = .ok (.idiv, 1) := by decide +kernel
theorem dX2_seesItsFile_96 : decode cX2_seesItsFile 96 = .ok (.if_icmp .ne 5, 3) := by decide +kernel
theorem dX2_seesItsFile_99 : decode cX2_seesItsFile 99 = .ok (.iconst 1, 1) := by decide +kernel
theorem dX2_seesItsFile_100 : decode cX2_seesItsFile 100 = .ok (.ireturn, 1) := by decide +kernel
theorem dX2_seesItsFile_101 : decode cX2_seesItsFile 101 = .ok (.iinc 4 1, 3) := by decide +kernel
theorem dX2_seesItsFile_104 : decode cX2_seesItsFile 104 = .ok (.goto (-78), 3) := by decide +kernel
theorem dX2_seesItsFile_107 : decode cX2_seesItsFile 107 = .ok (.iconst 0, 1) := by decide +kernel
theorem dX2_seesItsFile_108 : decode cX2_seesItsFile 108 = .ok (.ireturn, 1) := by decide +kernel
set_option maxRecDepth 20000 in
theorem ggX2_noteLeak_X4_get : GoodIn wsX2_noteLeak wsX4_get := goodIn_r _ [7, 8, 9, 10, 11, 27, 28, 29, 30] (by decide +kernel) (by decide +kernel)
set_option maxRecDepth 20000 in
theorem gX2_noteLeak_X4_get : GoodIn wsX2_noteLeak (wsV RX2 59 RX4 yX4_get wsX4_get) := goodIn_app (goodIn_of _ (by decide +kernel)) ggX2_noteLeak_X4_get
set_option maxRecDepth 20000 in
theorem ggX2_noteLeak_X2_seesItsFile : GoodIn wsX2_noteLeak wsX2_seesItsFile := goodIn_r _ [16, 1, 3, 4, 5, 6, 7, 8, 9, 10, 11, 17, 18, 19, 20, 21, 22, 23, 24, 25, 26, 27, 28, 29, 30] (by decide +kernel) (by decide +kernel)
set_option maxRecDepth 20000 in
theorem gX2_noteLeak_X2_seesItsFile : GoodIn wsX2_noteLeak (wsV RX2 142 RX2 yX2_seesItsFile wsX2_seesItsFile) := goodIn_app (goodIn_of _ (by decide +kernel)) ggX2_noteLeak_X2_seesItsFile
theorem dX2_noteLeak_0 : decode cX2_noteLeak 0 = .ok (.aload_n 0, 1) := by decide +kernel
theorem dX2_noteLeak_1 : decode cX2_noteLeak 1 = .ok (.getfield 20, 3) := by decide +kernel
theorem dX2_noteLeak_4 : decode cX2_noteLeak 4 = .ok (.iload_n 1, 1) := by decide +kernel
theorem dX2_noteLeak_5 : decode cX2_noteLeak 5 = .ok (.iconst 1, 1) := by decide +kernel
theorem dX2_noteLeak_6 : decode cX2_noteLeak 6 = .ok (.invokevirtual 59, 3) := by decide +kernel
theorem dX2_noteLeak_9 : decode cX2_noteLeak 9 = .ok (.iconst 4, 1) := by decide +kernel
theorem dX2_noteLeak_10 : decode cX2_noteLeak 10 = .ok (.if_icmp .ne 25, 3) := by decide +kernel
theorem dX2_noteLeak_13 : decode cX2_noteLeak 13 = .ok (.aload_n 0, 1) := by decide +kernel
theorem dX2_noteLeak_14 : decode cX2_noteLeak 14 = .ok (.iload_n 1, 1) := by decide +kernel
theorem dX2_noteLeak_15 : decode cX2_noteLeak 15 = .ok (.invokevirtual 142, 3) := by decide +kernel
theorem dX2_noteLeak_18 : decode cX2_noteLeak 18 = .ok (.ifCond .ne 17, 3) := by decide +kernel
theorem dX2_noteLeak_21 : decode cX2_noteLeak 21 = .ok (.aload_n 0, 1) := by decide +kernel
theorem dX2_noteLeak_22 : decode cX2_noteLeak 22 = .ok (.dup, 1) := by decide +kernel
theorem dX2_noteLeak_23 : decode cX2_noteLeak 23 = .ok (.getfield 145, 3) := by decide +kernel
theorem dX2_noteLeak_26 : decode cX2_noteLeak 26 = .ok (.iconst 1, 1) := by decide +kernel
theorem dX2_noteLeak_27 : decode cX2_noteLeak 27 = .ok (.iload_n 1, 1) := by decide +kernel
theorem dX2_noteLeak_28 : decode cX2_noteLeak 28 = .ok (.iconst 2, 1) := by decide +kernel
theorem dX2_noteLeak_29 : decode cX2_noteLeak 29 = .ok (.idiv, 1) := by decide +kernel
theorem dX2_noteLeak_30 : decode cX2_noteLeak 30 = .ok (.ishl, 1) := by decide +kernel
theorem dX2_noteLeak_31 : decode cX2_noteLeak 31 = .ok (.ior, 1) := by decide +kernel
theorem dX2_noteLeak_32 : decode cX2_noteLeak 32 = .ok (.putfield 145, 3) := by decide +kernel
theorem dX2_noteLeak_35 : decode cX2_noteLeak 35 = .ok (.return_, 1) := by decide +kernel
set_option maxRecDepth 20000 in
theorem ggX2_isFetched_X0_find : GoodIn wsX2_isFetched wsX0_find := goodIn_r _ [7, 8, 9, 10, 11, 12, 13, 14, 15, 16, 17, 18, 19, 20, 21, 41, 42, 43, 44, 45, 46, 47] (by decide +kernel) (by decide +kernel)
set_option maxRecDepth 20000 in
theorem gX2_isFetched_X0_find : GoodIn wsX2_isFetched (wsV RX2 148 RX0 yX0_find wsX0_find) := goodIn_app (goodIn_of _ (by decide +kernel)) ggX2_isFetched_X0_find
set_option maxRecDepth 20000 in
theorem ggX2_isFetched_X4_clear : GoodIn wsX2_isFetched wsX4_clear := goodIn_r _ [25, 18, 19, 20, 21, 44, 45, 46, 47] (by decide +kernel) (by decide +kernel)
set_option maxRecDepth 20000 in
theorem gX2_isFetched_X4_clear : GoodIn wsX2_isFetched (wsV RX2 48 RX4 yX4_clear wsX4_clear) := goodIn_app (goodIn_of _ (by decide +kernel)) ggX2_isFetched_X4_clear
set_option maxRecDepth 20000 in
theorem ggX2_isFetched_X4_get : GoodIn wsX2_isFetched wsX4_get := goodIn_r _ [17, 18, 19, 20, 21, 44, 45, 46, 47] (by decide +kernel) (by decide +kernel)
set_option maxRecDepth 20000 in
theorem gX2_isFetched_X4_get : GoodIn wsX2_isFetched (wsV RX2 59 RX4 yX4_get wsX4_get) := goodIn_app (goodIn_of _ (by decide +kernel)) ggX2_isFetched_X4_get
set_option maxRecDepth 20000 in
theorem ggX2_isFetched_X4_set : GoodIn wsX2_isFetched wsX4_set := goodIn_r _ [30, 18, 19, 20, 44, 45, 46, 47] (by decide +kernel) (by decide +kernel)
set_option maxRecDepth 20000 in
theorem gX2_isFetched_X4_set : GoodIn wsX2_isFetched (wsV RX2 62 RX4 yX4_set wsX4_set) := goodIn_app (goodIn_of _ (by decide +kernel)) ggX2_isFetched_X4_set
theorem dX2_isFetched_0 : decode cX2_isFetched 0 = .ok (.aload_n 0, 1) := by decide +kernel
theorem dX2_isFetched_1 : decode cX2_isFetched 1 = .ok (.getfield 32, 3) := by decide +kernel
theorem dX2_isFetched_4 : decode cX2_isFetched 4 = .ok (.aload_n 0, 1) := by decide +kernel
theorem dX2_isFetched_5 : decode cX2_isFetched 5 = .ok (.getfield 20, 3) := by decide +kernel
theorem dX2_isFetched_8 : decode cX2_isFetched 8 = .ok (.iload_n 1, 1) := by decide +kernel
theorem dX2_isFetched_9 : decode cX2_isFetched 9 = .ok (.invokevirtual 148, 3) := by decide +kernel
theorem dX2_isFetched_12 : decode cX2_isFetched 12 = .ok (.istore_n 2, 1) := by decide +kernel
theorem dX2_isFetched_13 : decode cX2_isFetched 13 = .ok (.iload_n 2, 1) := by decide +kernel
theorem dX2_isFetched_14 : decode cX2_isFetched 14 = .ok (.iconst (-1), 1) := by decide +kernel
theorem dX2_isFetched_15 : decode cX2_isFetched 15 = .ok (.if_icmp .ne 5, 3) := by decide +kernel
theorem dX2_isFetched_18 : decode cX2_isFetched 18 = .ok (.iconst 0, 1) := by decide +kernel
theorem dX2_isFetched_19 : decode cX2_isFetched 19 = .ok (.ireturn, 1) := by decide +kernel
theorem dX2_isFetched_20 : decode cX2_isFetched 20 = .ok (.aload_n 0, 1) := by decide +kernel
theorem dX2_isFetched_21 : decode cX2_isFetched 21 = .ok (.getfield 32, 3) := by decide +kernel
theorem dX2_isFetched_24 : decode cX2_isFetched 24 = .ok (.getfield 151, 3) := by decide +kernel
theorem dX2_isFetched_27 : decode cX2_isFetched 27 = .ok (.ifCond .le 29, 3) := by decide +kernel
theorem dX2_isFetched_30 : decode cX2_isFetched 30 = .ok (.aload_n 0, 1) := by decide +kernel
theorem dX2_isFetched_31 : decode cX2_isFetched 31 = .ok (.getfield 32, 3) := by decide +kernel
theorem dX2_isFetched_34 : decode cX2_isFetched 34 = .ok (.dup, 1) := by decide +kernel
theorem dX2_isFetched_35 : decode cX2_isFetched 35 = .ok (.getfield 151, 3) := by decide +kernel
theorem dX2_isFetched_38 : decode cX2_isFetched 38 = .ok (.iconst 1, 1) := by decide +kernel
theorem dX2_isFetched_39 : decode cX2_isFetched 39 = .ok (.isub, 1) := by decide +kernel
theorem dX2_isFetched_40 : decode cX2_isFetched 40 = .ok (.putfield 151, 3) := by decide +kernel
theorem dX2_isFetched_43 : decode cX2_isFetched 43 = .ok (.aload_n 0, 1) := by decide +kernel
theorem dX2_isFetched_44 : decode cX2_isFetched 44 = .ok (.getfield 32, 3) := by decide +kernel
theorem dX2_isFetched_47 : decode cX2_isFetched 47 = .ok (.getfield 154, 3) := by decide +kernel
theorem dX2_isFetched_50 : decode cX2_isFetched 50 = .ok (.iload_n 2, 1) := by decide +kernel
theorem dX2_isFetched_51 : decode cX2_isFetched 51 = .ok (.invokevirtual 48, 3) := by decide +kernel
theorem dX2_isFetched_54 : decode cX2_isFetched 54 = .ok (.iconst 0, 1) := by decide +kernel
theorem dX2_isFetched_55 : decode cX2_isFetched 55 = .ok (.ireturn, 1) := by decide +kernel
theorem dX2_isFetched_56 : decode cX2_isFetched 56 = .ok (.aload_n 0, 1) := by decide +kernel
theorem dX2_isFetched_57 : decode cX2_isFetched 57 = .ok (.getfield 20, 3) := by decide +kernel
theorem dX2_isFetched_60 : decode cX2_isFetched 60 = .ok (.iload_n 1, 1) := by decide +kernel
theorem dX2_isFetched_61 : decode cX2_isFetched 61 = .ok (.bipush 50, 2) := by decide +kernel
theorem dX2_isFetched_63 : decode cX2_isFetched 63 = .ok (.aload_n 0, 1) := by decide +kernel
theorem dX2_isFetched_64 : decode cX2_isFetched 64 = .ok (.getfield 32, 3) := by decide +kernel
theorem dX2_isFetched_67 : decode cX2_isFetched 67 = .ok (.getfield 154, 3) := by decide +kernel
theorem dX2_isFetched_70 : decode cX2_isFetched 70 = .ok (.iload_n 2, 1) := by decide +kernel
theorem dX2_isFetched_71 : decode cX2_isFetched 71 = .ok (.bipush 50, 2) := by decide +kernel
theorem dX2_isFetched_73 : decode cX2_isFetched 73 = .ok (.invokevirtual 59, 3) := by decide +kernel
theorem dX2_isFetched_76 : decode cX2_isFetched 76 = .ok (.invokevirtual 62, 3) := by decide +kernel
theorem dX2_isFetched_79 : decode cX2_isFetched 79 = .ok (.aload_n 0, 1) := by decide +kernel
theorem dX2_isFetched_80 : decode cX2_isFetched 80 = .ok (.getfield 20, 3) := by decide +kernel
theorem dX2_isFetched_83 : decode cX2_isFetched 83 = .ok (.iload_n 1, 1) := by decide +kernel
theorem dX2_isFetched_84 : decode cX2_isFetched 84 = .ok (.bipush 51, 2) := by decide +kernel
theorem dX2_isFetched_86 : decode cX2_isFetched 86 = .ok (.aload_n 0, 1) := by decide +kernel
theorem dX2_isFetched_87 : decode cX2_isFetched 87 = .ok (.getfield 32, 3) := by decide +kernel
theorem dX2_isFetched_90 : decode cX2_isFetched 90 = .ok (.getfield 154, 3) := by decide +kernel
theorem dX2_isFetched_93 : decode cX2_isFetched 93 = .ok (.iload_n 2, 1) := by decide +kernel
theorem dX2_isFetched_94 : decode cX2_isFetched 94 = .ok (.bipush 51, 2) := by decide +kernel
theorem dX2_isFetched_96 : decode cX2_isFetched 96 = .ok (.invokevirtual 59, 3) := by decide +kernel
theorem dX2_isFetched_99 : decode cX2_isFetched 99 = .ok (.invokevirtual 62, 3) := by decide +kernel
theorem dX2_isFetched_102 : decode cX2_isFetched 102 = .ok (.iconst 1, 1) := by decide +kernel
theorem dX2_isFetched_103 : decode cX2_isFetched 103 = .ok (.ireturn, 1) := by decide +kernel
set_option maxRecDepth 20000 in
theorem ggX2_runUntilGood_X3_takeNext : GoodIn wsX2_runUntilGood wsX3_takeNext := goodIn_r _ [7, 8, 9, 10, 11, 6, 12, 13, 14, 15, 16, 17, 18, 19, 20, 21, 22, 42, 43, 44, 45, 46, 47, 48, 49] (by decide +kernel) (by decide +kernel)
set_option maxRecDepth 20000 in
theorem gX2_runUntilGood_X3_takeNext : GoodIn wsX2_runUntilGood (wsV RX2 157 RX3 yX3_takeNext wsX3_takeNext) := goodIn_app (goodIn_of _ (by decide +kernel)) ggX2_runUntilGood_X3_takeNext
set_option maxRecDepth 20000 in
theorem ggX2_runUntilGood_X3_usesUpFailure : GoodIn wsX2_runUntilGood wsX3_usesUpFailure := goodIn_r _ [26, 27, 14, 15, 16, 17, 18, 19, 20, 21, 22, 28, 29, 30, 31, 42, 43, 44, 45, 46, 47, 48, 49] (by decide +kernel) (by decide +kernel)
set_option maxRecDepth 20000 in
theorem gX2_runUntilGood_X3_usesUpFailure : GoodIn wsX2_runUntilGood (wsV RX2 163 RX3 yX3_usesUpFailure wsX3_usesUpFailure) := goodIn_app (goodIn_of _ (by decide +kernel)) ggX2_runUntilGood_X3_usesUpFailure
theorem dX2_runUntilGood_0 : decode cX2_runUntilGood 0 = .ok (.iconst 0, 1) := by decide +kernel
theorem dX2_runUntilGood_1 : decode cX2_runUntilGood 1 = .ok (.istore_n 2, 1) := by decide +kernel
theorem dX2_runUntilGood_2 : decode cX2_runUntilGood 2 = .ok (.iload_n 2, 1) := by decide +kernel
theorem dX2_runUntilGood_3 : decode cX2_runUntilGood 3 = .ok (.iconst 3, 1) := by decide +kernel
theorem dX2_runUntilGood_4 : decode cX2_runUntilGood 4 = .ok (.if_icmp .ge 42, 3) := by decide +kernel
theorem dX2_runUntilGood_7 : decode cX2_runUntilGood 7 = .ok (.aload_n 0, 1) := by decide +kernel
theorem dX2_runUntilGood_8 : decode cX2_runUntilGood 8 = .ok (.getfield 36, 3) := by decide +kernel
theorem dX2_runUntilGood_11 : decode cX2_runUntilGood 11 = .ok (.invokevirtual 157, 3) := by decide +kernel
theorem dX2_runUntilGood_14 : decode cX2_runUntilGood 14 = .ok (.istore_n 3, 1) := by decide +kernel
theorem dX2_runUntilGood_15 : decode cX2_runUntilGood 15 = .ok (.aload_n 0, 1) := by decide +kernel
theorem dX2_runUntilGood_16 : decode cX2_runUntilGood 16 = .ok (.dup, 1) := by decide +kernel
theorem dX2_runUntilGood_17 : decode cX2_runUntilGood 17 = .ok (.getfield 44, 3) := by decide +kernel
theorem dX2_runUntilGood_20 : decode cX2_runUntilGood 20 = .ok (.iconst 1, 1) := by decide +kernel
theorem dX2_runUntilGood_21 : decode cX2_runUntilGood 21 = .ok (.iadd, 1) := by decide +kernel
theorem dX2_runUntilGood_22 : decode cX2_runUntilGood 22 = .ok (.putfield 44, 3) := by decide +kernel
theorem dX2_runUntilGood_25 : decode cX2_runUntilGood 25 = .ok (.aload_n 0, 1) := by decide +kernel
theorem dX2_runUntilGood_26 : decode cX2_runUntilGood 26 = .ok (.getfield 36, 3) := by decide +kernel
theorem dX2_runUntilGood_29 : decode cX2_runUntilGood 29 = .ok (.iload_n 1, 1) := by decide +kernel
theorem dX2_runUntilGood_30 : decode cX2_runUntilGood 30 = .ok (.iconst 2, 1) := by decide +kernel
theorem dX2_runUntilGood_31 : decode cX2_runUntilGood 31 = .ok (.idiv, 1) := by decide +kernel
theorem dX2_runUntilGood_32 : decode cX2_runUntilGood 32 = .ok (.invokevirtual 163, 3) := by decide +kernel
theorem dX2_runUntilGood_35 : decode cX2_runUntilGood 35 = .ok (.ifCond .ne 5, 3) := by decide +kernel
theorem dX2_runUntilGood_38 : decode cX2_runUntilGood 38 = .ok (.iload_n 3, 1) := by decide +kernel
theorem dX2_runUntilGood_39 : decode cX2_runUntilGood 39 = .ok (.ireturn, 1) := by decide +kernel
theorem dX2_runUntilGood_40 : decode cX2_runUntilGood 40 = .ok (.iinc 2 1, 3) := by decide +kernel
theorem dX2_runUntilGood_43 : decode cX2_runUntilGood 43 = .ok (.goto (-41), 3) := by decide +kernel
theorem dX2_runUntilGood_46 : decode cX2_runUntilGood 46 = .ok (.iconst (-1), 1) := by decide +kernel
theorem dX2_runUntilGood_47 : decode cX2_runUntilGood 47 = .ok (.ireturn, 1) := by decide +kernel
set_option maxRecDepth 20000 in
theorem ggX2_tell_X3_tells : GoodIn wsX2_tell wsX3_tells := goodIn_r _ [8, 9, 10, 11, 12, 13, 14, 15, 16, 17, 18, 54, 55, 56, 57, 58, 59, 60, 61] (by decide +kernel) (by decide +kernel)
set_option maxRecDepth 20000 in
theorem gX2_tell_X3_tells : GoodIn wsX2_tell (wsV RX2 166 RX3 yX3_tells wsX3_tells) := goodIn_app (goodIn_of _ (by decide +kernel)) ggX2_tell_X3_tells
set_option maxRecDepth 20000 in
theorem ggX2_tell_X2_putAway : GoodIn wsX2_tell wsX2_putAway := goodIn_r _ [23, 1, 24, 25, 26, 27, 28, 29, 13, 30, 15, 16, 17, 31, 32, 33, 34, 35, 36, 37, 11, 12, 14, 18, 38, 39, 40, 41, 42, 43, 44, 45, 46, 47, 48, 49, 50, 51, 52, 53, 54, 55, 56, 57, 58, 59, 60, 61, 62, 63, 64] (by decide +kernel) (by decide +kernel)
set_option maxRecDepth 20000 in
theorem gX2_tell_X2_putAway : GoodIn wsX2_tell (wsV RX2 172 RX2 yX2_putAway wsX2_putAway) := goodIn_app (goodIn_of _ (by decide +kernel)) ggX2_tell_X2_putAway
set_option maxRecDepth 20000 in
theorem ggX2_tell_X4_set : GoodIn wsX2_tell wsX4_set := goodIn_r _ [30, 15, 16, 17, 58, 59, 60, 61] (by decide +kernel) (by decide +kernel)
set_option maxRecDepth 20000 in
theorem gX2_tell_X4_set : GoodIn wsX2_tell (wsV RX2 62 RX4 yX4_set wsX4_set) := goodIn_app (goodIn_of _ (by decide +kernel)) ggX2_tell_X4_set
theorem dX2_tell_0 : decode cX2_tell 0 = .ok (.aload_n 0, 1) := by decide +kernel
theorem dX2_tell_1 : decode cX2_tell 1 = .ok (.getfield 36, 3) := by decide +kernel
theorem dX2_tell_4 : decode cX2_tell 4 = .ok (.iload_n 2, 1) := by decide +kernel
theorem dX2_tell_5 : decode cX2_tell 5 = .ok (.iload_n 3, 1) := by decide +kernel
theorem dX2_tell_6 : decode cX2_tell 6 = .ok (.invokevirtual 166, 3) := by decide +kernel
theorem dX2_tell_9 : decode cX2_tell 9 = .ok (.istore 4, 2) := by decide +kernel
theorem dX2_tell_11 : decode cX2_tell 11 = .ok (.aload_n 0, 1) := by decide +kernel
theorem dX2_tell_12 : decode cX2_tell 12 = .ok (.getfield 36, 3) := by decide +kernel
theorem dX2_tell_15 : decode cX2_tell 15 = .ok (.getfield 169, 3) := by decide +kernel
theorem dX2_tell_18 : decode cX2_tell 18 = .ok (.ifCond .eq 12, 3) := by decide +kernel
theorem dX2_tell_21 : decode cX2_tell 21 = .ok (.iload_n 2, 1) := by decide +kernel
theorem dX2_tell_22 : decode cX2_tell 22 = .ok (.iconst 3, 1) := by decide +kernel
theorem dX2_tell_23 : decode cX2_tell 23 = .ok (.if_icmp .eq 7, 3) := by decide +kernel
theorem dX2_tell_26 : decode cX2_tell 26 = .ok (.iconst 1, 1) := by decide +kernel
theorem dX2_tell_27 : decode cX2_tell 27 = .ok (.goto 4, 3) := by decide +kernel
theorem dX2_tell_30 : decode cX2_tell 30 = .ok (.iconst 0, 1) := by decide +kernel
theorem dX2_tell_31 : decode cX2_tell 31 = .ok (.istore 5, 2) := by decide +kernel
theorem dX2_tell_33 : decode cX2_tell 33 = .ok (.iload 5, 2) := by decide +kernel
theorem dX2_tell_35 : decode cX2_tell 35 = .ok (.ifCond .eq 13, 3) := by decide +kernel
theorem dX2_tell_38 : decode cX2_tell 38 = .ok (.aload_n 0, 1) := by decide +kernel
theorem dX2_tell_39 : decode cX2_tell 39 = .ok (.dup, 1) := by decide +kernel
theorem dX2_tell_40 : decode cX2_tell 40 = .ok (.getfield 44, 3) := by decide +kernel
theorem dX2_tell_43 : decode cX2_tell 43 = .ok (.iconst 1, 1) := by decide +kernel
theorem dX2_tell_44 : decode cX2_tell 44 = .ok (.iadd, 1) := by decide +kernel
theorem dX2_tell_45 : decode cX2_tell 45 = .ok (.putfield 44, 3) := by decide +kernel
theorem dX2_tell_48 : decode cX2_tell 48 = .ok (.iload 5, 2) := by decide +kernel
theorem dX2_tell_50 : decode cX2_tell 50 = .ok (.ifCond .eq 13, 3) := by decide +kernel
theorem dX2_tell_53 : decode cX2_tell 53 = .ok (.iload 4, 2) := by decide +kernel
theorem dX2_tell_55 : decode cX2_tell 55 = .ok (.iload_n 3, 1) := by decide +kernel
theorem dX2_tell_56 : decode cX2_tell 56 = .ok (.if_icmp .eq 7, 3) := by decide +kernel
theorem dX2_tell_59 : decode cX2_tell 59 = .ok (.iconst 1, 1) := by decide +kernel
theorem dX2_tell_60 : decode cX2_tell 60 = .ok (.goto 4, 3) := by decide +kernel
theorem dX2_tell_63 : decode cX2_tell 63 = .ok (.iconst 0, 1) := by decide +kernel
theorem dX2_tell_64 : decode cX2_tell 64 = .ok (.istore 6, 2) := by decide +kernel
theorem dX2_tell_66 : decode cX2_tell 66 = .ok (.iload 6, 2) := by decide +kernel
theorem dX2_tell_68 : decode cX2_tell 68 = .ok (.ifCond .eq 8, 3) := by decide +kernel
theorem dX2_tell_71 : decode cX2_tell 71 = .ok (.aload_n 0, 1) := by decide +kernel
theorem dX2_tell_72 : decode cX2_tell 72 = .ok (.iload_n 2, 1) := by decide +kernel
theorem dX2_tell_73 : decode cX2_tell 73 = .ok (.invokevirtual 172, 3) := by decide +kernel
theorem dX2_tell_76 : decode cX2_tell 76 = .ok (.aload_n 0, 1) := by decide +kernel
theorem dX2_tell_77 : decode cX2_tell 77 = .ok (.getfield 20, 3) := by decide +kernel
theorem dX2_tell_80 : decode cX2_tell 80 = .ok (.iload_n 1, 1) := by decide +kernel
theorem dX2_tell_81 : decode cX2_tell 81 = .ok (.bipush 50, 2) := by decide +kernel
theorem dX2_tell_83 : decode cX2_tell 83 = .ok (.iload 6, 2) := by decide +kernel
theorem dX2_tell_85 : decode cX2_tell 85 = .ok (.ifCond .eq 7, 3) := by decide +kernel
theorem dX2_tell_88 : decode cX2_tell 88 = .ok (.iload_n 3, 1) := by decide +kernel
theorem dX2_tell_89 : decode cX2_tell 89 = .ok (.goto 5, 3) := by decide +kernel
theorem dX2_tell_92 : decode cX2_tell 92 = .ok (.iload 4, 2) := by decide +kernel
theorem dX2_tell_94 : decode cX2_tell 94 = .ok (.invokevirtual 62, 3) := by decide +kernel
theorem dX2_tell_97 : decode cX2_tell 97 = .ok (.aload_n 0, 1) := by decide +kernel
theorem dX2_tell_98 : decode cX2_tell 98 = .ok (.getfield 20, 3) := by decide +kernel
theorem dX2_tell_101 : decode cX2_tell 101 = .ok (.iload_n 1, 1) := by decide +kernel
theorem dX2_tell_102 : decode cX2_tell 102 = .ok (.bipush 51, 2) := by decide +kernel
theorem dX2_tell_104 : decode cX2_tell 104 = .ok (.iload 6, 2) := by decide +kernel
theorem dX2_tell_106 : decode cX2_tell 106 = .ok (.ifCond .eq 7, 3) := by decide +kernel
theorem dX2_tell_109 : decode cX2_tell 109 = .ok (.iconst 3, 1) := by decide +kernel
theorem dX2_tell_110 : decode cX2_tell 110 = .ok (.goto 4, 3) := by decide +kernel
theorem dX2_tell_113 : decode cX2_tell 113 = .ok (.iload_n 2, 1) := by decide +kernel
theorem dX2_tell_114 : decode cX2_tell 114 = .ok (.invokevirtual 62, 3) := by decide +kernel
theorem dX2_tell_117 : decode cX2_tell 117 = .ok (.return_, 1) := by decide +kernel
set_option maxRecDepth 20000 in
theorem ggX2_putAway_X4_set : GoodIn wsX2_putAway wsX4_set := goodIn_r _ [9, 10, 11, 12, 44, 45, 46, 47] (by decide +kernel) (by decide +kernel)
set_option maxRecDepth 20000 in
theorem gX2_putAway_X4_set : GoodIn wsX2_putAway (wsV RX2 62 RX4 yX4_set wsX4_set) := goodIn_app (goodIn_of _ (by decide +kernel)) ggX2_putAway_X4_set
set_option maxRecDepth 20000 in
theorem ggX2_putAway_X0_loseAllFrom : GoodIn wsX2_putAway wsX0_loseAllFrom := goodIn_r _ [17, 18, 19, 20, 21, 8, 22, 10, 11, 12, 23, 24, 25, 26, 27, 48, 49, 50, 44, 45, 46, 47] (by decide +kernel) (by decide +kernel)
set_option maxRecDepth 20000 in
theorem gX2_putAway_X0_loseAllFrom : GoodIn wsX2_putAway (wsV RX2 176 RX0 yX0_loseAllFrom wsX0_loseAllFrom) := goodIn_app (goodIn_of _ (by decide +kernel)) ggX2_putAway_X0_loseAllFrom
set_option maxRecDepth 20000 in
theorem ggX2_putAway_X4_get : GoodIn wsX2_putAway wsX4_get := goodIn_r _ [22, 10, 11, 12, 23, 44, 45, 46, 47] (by decide +kernel) (by decide +kernel)
set_option maxRecDepth 20000 in
theorem gX2_putAway_X4_get : GoodIn wsX2_putAway (wsV RX2 59 RX4 yX4_get wsX4_get) := goodIn_app (goodIn_of _ (by decide +kernel)) ggX2_putAway_X4_get
set_option maxRecDepth 20000 in
theorem ggX2_putAway_X4_clear : GoodIn wsX2_putAway wsX4_clear := goodIn_r _ [27, 10, 11, 12, 23, 44, 45, 46, 47] (by decide +kernel) (by decide +kernel)
set_option maxRecDepth 20000 in
theorem gX2_putAway_X4_clear : GoodIn wsX2_putAway (wsV RX2 48 RX4 yX4_clear wsX4_clear) := goodIn_app (goodIn_of _ (by decide +kernel)) ggX2_putAway_X4_clear
theorem dX2_putAway_0 : decode cX2_putAway 0 = .ok (.aload_n 0, 1) := by decide +kernel
theorem dX2_putAway_1 : decode cX2_putAway 1 = .ok (.getfield 36, 3) := by decide +kernel
theorem dX2_putAway_4 : decode cX2_putAway 4 = .ok (.getfield 175, 3) := by decide +kernel
theorem dX2_putAway_7 : decode cX2_putAway 7 = .ok (.iload_n 1, 1) := by decide +kernel
theorem dX2_putAway_8 : decode cX2_putAway 8 = .ok (.iconst 1, 1) := by decide +kernel
theorem dX2_putAway_9 : decode cX2_putAway 9 = .ok (.iconst 1, 1) := by decide +kernel
theorem dX2_putAway_10 : decode cX2_putAway 10 = .ok (.invokevirtual 62, 3) := by decide +kernel
theorem dX2_putAway_13 : decode cX2_putAway 13 = .ok (.aload_n 0, 1) := by decide +kernel
theorem dX2_putAway_14 : decode cX2_putAway 14 = .ok (.getfield 32, 3) := by decide +kernel
theorem dX2_putAway_17 : decode cX2_putAway 17 = .ok (.iload_n 1, 1) := by decide +kernel
theorem dX2_putAway_18 : decode cX2_putAway 18 = .ok (.invokevirtual 176, 3) := by decide +kernel
theorem dX2_putAway_21 : decode cX2_putAway 21 = .ok (.iconst 0, 1) := by decide +kernel
theorem dX2_putAway_22 : decode cX2_putAway 22 = .ok (.istore_n 2, 1) := by decide +kernel
theorem dX2_putAway_23 : decode cX2_putAway 23 = .ok (.iload_n 2, 1) := by decide +kernel
theorem dX2_putAway_24 : decode cX2_putAway 24 = .ok (.bipush 32, 2) := by decide +kernel
theorem dX2_putAway_26 : decode cX2_putAway 26 = .ok (.if_icmp .ge 43, 3) := by decide +kernel
theorem dX2_putAway_29 : decode cX2_putAway 29 = .ok (.aload_n 0, 1) := by decide +kernel
theorem dX2_putAway_30 : decode cX2_putAway 30 = .ok (.getfield 14, 3) := by decide +kernel
theorem dX2_putAway_33 : decode cX2_putAway 33 = .ok (.iload_n 2, 1) := by decide +kernel
theorem dX2_putAway_34 : decode cX2_putAway 34 = .ok (.iconst 0, 1) := by decide +kernel
theorem dX2_putAway_35 : decode cX2_putAway 35 = .ok (.invokevirtual 59, 3) := by decide +kernel
theorem dX2_putAway_38 : decode cX2_putAway 38 = .ok (.ifCond .ne 25, 3) := by decide +kernel
theorem dX2_putAway_41 : decode cX2_putAway 41 = .ok (.aload_n 0, 1) := by decide +kernel
theorem dX2_putAway_42 : decode cX2_putAway 42 = .ok (.getfield 29, 3) := by decide +kernel
theorem dX2_putAway_45 : decode cX2_putAway 45 = .ok (.iload_n 2, 1) := by decide +kernel
theorem dX2_putAway_46 : decode cX2_putAway 46 = .ok (.bipush 51, 2) := by decide +kernel
theorem dX2_putAway_48 : decode cX2_putAway 48 = .ok (.invokevirtual 59, 3) := by decide +kernel
theorem dX2_putAway_51 : decode cX2_putAway 51 = .ok (.iload_n 1, 1) := by decide +kernel
theorem dX2_putAway_52 : decode cX2_putAway 52 = .ok (.if_icmp .ne 11, 3) := by decide +kernel
theorem dX2_putAway_55 : decode cX2_putAway 55 = .ok (.aload_n 0, 1) := by decide +kernel
theorem dX2_putAway_56 : decode cX2_putAway 56 = .ok (.getfield 29, 3) := by decide +kernel
theorem dX2_putAway_59 : decode cX2_putAway 59 = .ok (.iload_n 2, 1) := by decide +kernel
theorem dX2_putAway_60 : decode cX2_putAway 60 = .ok (.invokevirtual 48, 3) := by decide +kernel
theorem dX2_putAway_63 : decode cX2_putAway 63 = .ok (.iinc 2 1, 3) := by decide +kernel
theorem dX2_putAway_66 : decode cX2_putAway 66 = .ok (.goto (-43), 3) := by decide +kernel
theorem dX2_putAway_69 : decode cX2_putAway 69 = .ok (.return_, 1) := by decide +kernel
set_option maxRecDepth 20000 in
theorem ggX2_loseKeptFromAway_X4_get : GoodIn wsX2_loseKeptFromAway wsX4_get := goodIn_r _ [7, 8, 9, 10, 11, 33, 34, 35, 36] (by decide +kernel) (by decide +kernel)
set_option maxRecDepth 20000 in
theorem gX2_loseKeptFromAway_X4_get : GoodIn wsX2_loseKeptFromAway (wsV RX2 59 RX4 yX4_get wsX4_get) := goodIn_app (goodIn_of _ (by decide +kernel)) ggX2_loseKeptFromAway_X4_get
set_option maxRecDepth 20000 in
theorem ggX2_loseKeptFromAway_X3_isAway : GoodIn wsX2_loseKeptFromAway wsX3_isAway := goodIn_r _ [16, 17, 18, 4, 5, 6, 7, 8, 9, 10, 11, 37, 38, 39, 40, 33, 34, 35, 36] (by decide +kernel) (by decide +kernel)
set_option maxRecDepth 20000 in
theorem gX2_loseKeptFromAway_X3_isAway : GoodIn wsX2_loseKeptFromAway (wsV RX2 179 RX3 yX3_isAway wsX3_isAway) := goodIn_app (goodIn_of _ (by decide +kernel)) ggX2_loseKeptFromAway_X3_isAway
set_option maxRecDepth 20000 in
theorem ggX2_loseKeptFromAway_X4_clear : GoodIn wsX2_loseKeptFromAway wsX4_clear := goodIn_r _ [22, 8, 9, 10, 11, 33, 34, 35, 36] (by decide +kernel) (by decide +kernel)
set_option maxRecDepth 20000 in
theorem gX2_loseKeptFromAway_X4_clear : GoodIn wsX2_loseKeptFromAway (wsV RX2 48 RX4 yX4_clear wsX4_clear) := goodIn_app (goodIn_of _ (by decide +kernel)) ggX2_loseKeptFromAway_X4_clear
theorem dX2_loseKeptFromAway_0 : decode cX2_loseKeptFromAway 0 = .ok (.iconst 0, 1) := by decide +kernel
theorem dX2_loseKeptFromAway_1 : decode cX2_loseKeptFromAway 1 = .ok (.istore_n 1, 1) := by decide +kernel
theorem dX2_loseKeptFromAway_2 : decode cX2_loseKeptFromAway 2 = .ok (.iload_n 1, 1) := by decide +kernel
theorem dX2_loseKeptFromAway_3 : decode cX2_loseKeptFromAway 3 = .ok (.bipush 32, 2) := by decide +kernel
theorem dX2_loseKeptFromAway_5 : decode cX2_loseKeptFromAway 5 = .ok (.if_icmp .ge 37, 3) := by decide +kernel
theorem dX2_loseKeptFromAway_8 : decode cX2_loseKeptFromAway 8 = .ok (.aload_n 0, 1) := by decide +kernel
theorem dX2_loseKeptFromAway_9 : decode cX2_loseKeptFromAway 9 = .ok (.getfield 36, 3) := by decide +kernel
theorem dX2_loseKeptFromAway_12 : decode cX2_loseKeptFromAway 12 = .ok (.aload_n 0, 1) := by decide +kernel
theorem dX2_loseKeptFromAway_13 : decode cX2_loseKeptFromAway 13 = .ok (.getfield 29, 3) := by decide +kernel
theorem dX2_loseKeptFromAway_16 : decode cX2_loseKeptFromAway 16 = .ok (.iload_n 1, 1) := by decide +kernel
theorem dX2_loseKeptFromAway_17 : decode cX2_loseKeptFromAway 17 = .ok (.bipush 51, 2) := by decide +kernel
theorem dX2_loseKeptFromAway_19 : decode cX2_loseKeptFromAway 19 = .ok (.invokevirtual 59, 3) := by decide +kernel
theorem dX2_loseKeptFromAway_22 : decode cX2_loseKeptFromAway 22 = .ok (.invokevirtual 179, 3) := by decide +kernel
theorem dX2_loseKeptFromAway_25 : decode cX2_loseKeptFromAway 25 = .ok (.ifCond .eq 11, 3) := by decide +kernel
theorem dX2_loseKeptFromAway_28 : decode cX2_loseKeptFromAway 28 = .ok (.aload_n 0, 1) := by decide +kernel
theorem dX2_loseKeptFromAway_29 : decode cX2_loseKeptFromAway 29 = .ok (.getfield 29, 3) := by decide +kernel
theorem dX2_loseKeptFromAway_32 : decode cX2_loseKeptFromAway 32 = .ok (.iload_n 1, 1) := by decide +kernel
theorem dX2_loseKeptFromAway_33 : decode cX2_loseKeptFromAway 33 = .ok (.invokevirtual 48, 3) := by decide +kernel
theorem dX2_loseKeptFromAway_36 : decode cX2_loseKeptFromAway 36 = .ok (.iinc 1 1, 3) := by decide +kernel
theorem dX2_loseKeptFromAway_39 : decode cX2_loseKeptFromAway 39 = .ok (.goto (-37), 3) := by decide +kernel
theorem dX2_loseKeptFromAway_42 : decode cX2_loseKeptFromAway 42 = .ok (.return_, 1) := by decide +kernel
set_option maxRecDepth 20000 in
theorem ggX3_init_X4_init : GoodIn wsX3_init wsX4_init := goodIn_r _ [11, 12, 2, 3, 13, 14, 15, 16, 17, 18, 19, 20, 21] (by decide +kernel) (by decide +kernel)
set_option maxRecDepth 20000 in
theorem gX3_init_X4_init : GoodIn wsX3_init (wsX4_init) := ggX3_init_X4_init
theorem dX3_init_0 : decode cX3_init 0 = .ok (.aload_n 0, 1) := by decide +kernel
theorem dX3_init_1 : decode cX3_init 1 = .ok (.invokespecial 3, 3) := by decide +kernel
theorem dX3_init_4 : decode cX3_init 4 = .ok (.aload_n 0, 1) := by decide +kernel
theorem dX3_init_5 : decode cX3_init 5 = .ok (.new 9, 3) := by decide +kernel
theorem dX3_init_8 : decode cX3_init 8 = .ok (.dup, 1) := by decide +kernel
theorem dX3_init_9 : decode cX3_init 9 = .ok (.iconst 3, 1) := by decide +kernel
theorem dX3_init_10 : decode cX3_init 10 = .ok (.iconst 2, 1) := by decide +kernel
theorem dX3_init_11 : decode cX3_init 11 = .ok (.iconst 0, 1) := by decide +kernel
theorem dX3_init_12 : decode cX3_init 12 = .ok (.invokespecial 11, 3) := by decide +kernel
theorem dX3_init_15 : decode cX3_init 15 = .ok (.putfield 14, 3) := by decide +kernel
theorem dX3_init_18 : decode cX3_init 18 = .ok (.aload_n 0, 1) := by decide +kernel
theorem dX3_init_19 : decode cX3_init 19 = .ok (.new 9, 3) := by decide +kernel
theorem dX3_init_22 : decode cX3_init 22 = .ok (.dup, 1) := by decide +kernel
theorem dX3_init_23 : decode cX3_init 23 = .ok (.bipush 16, 2) := by decide +kernel
theorem dX3_init_25 : decode cX3_init 25 = .ok (.iconst 1, 1) := by decide +kernel
theorem dX3_init_26 : decode cX3_init 26 = .ok (.iconst 0, 1) := by decide +kernel
theorem dX3_init_27 : decode cX3_init 27 = .ok (.invokespecial 11, 3) := by decide +kernel
theorem dX3_init_30 : decode cX3_init 30 = .ok (.putfield 20, 3) := by decide +kernel
theorem dX3_init_33 : decode cX3_init 33 = .ok (.return_, 1) := by decide +kernel
set_option maxRecDepth 20000 in
theorem ggX3_letFail_X4_get : GoodIn wsX3_letFail wsX4_get := goodIn_r _ [6, 7, 8, 9, 10, 19, 20, 21, 22] (by decide +kernel) (by decide +kernel)
set_option maxRecDepth 20000 in
theorem gX3_letFail_X4_get : GoodIn wsX3_letFail (wsV RX3 23 RX4 yX4_get wsX4_get) := goodIn_app (goodIn_of _ (by decide +kernel)) ggX3_letFail_X4_get
set_option maxRecDepth 20000 in
theorem ggX3_letFail_X4_set : GoodIn wsX3_letFail wsX4_set := goodIn_r _ [14, 7, 8, 9, 19, 20, 21, 22] (by decide +kernel) (by decide +kernel)
set_option maxRecDepth 20000 in
theorem gX3_letFail_X4_set : GoodIn wsX3_letFail (wsV RX3 27 RX4 yX4_set wsX4_set) := goodIn_app (goodIn_of _ (by decide +kernel)) ggX3_letFail_X4_set
theorem dX3_letFail_0 : decode cX3_letFail 0 = .ok (.aload_n 0, 1) := by decide +kernel
theorem dX3_letFail_1 : decode cX3_letFail 1 = .ok (.getfield 20, 3) := by decide +kernel
theorem dX3_letFail_4 : decode cX3_letFail 4 = .ok (.iload_n 1, 1) := by decide +kernel
theorem dX3_letFail_5 : decode cX3_letFail 5 = .ok (.iconst 0, 1) := by decide +kernel
theorem dX3_letFail_6 : decode cX3_letFail 6 = .ok (.invokevirtual 23, 3) := by decide +kernel
theorem dX3_letFail_9 : decode cX3_letFail 9 = .ok (.istore_n 3, 1) := by decide +kernel
theorem dX3_letFail_10 : decode cX3_letFail 10 = .ok (.aload_n 0, 1) := by decide +kernel
theorem dX3_letFail_11 : decode cX3_letFail 11 = .ok (.getfield 20, 3) := by decide +kernel
theorem dX3_letFail_14 : decode cX3_letFail 14 = .ok (.iload_n 1, 1) := by decide +kernel
theorem dX3_letFail_15 : decode cX3_letFail 15 = .ok (.iconst 0, 1) := by decide +kernel
theorem dX3_letFail_16 : decode cX3_letFail 16 = .ok (.iload_n 2, 1) := by decide +kernel
theorem dX3_letFail_17 : decode cX3_letFail 17 = .ok (.invokevirtual 27, 3) := by decide +kernel
theorem dX3_letFail_20 : decode cX3_letFail 20 = .ok (.iload_n 3, 1) := by decide +kernel
theorem dX3_letFail_21 : decode cX3_letFail 21 = .ok (.ireturn, 1) := by decide +kernel
set_option maxRecDepth 20000 in
theorem ggX3_usesUpFailure_X4_get : GoodIn wsX3_usesUpFailure wsX4_get := goodIn_r _ [6, 7, 8, 9, 10, 19, 20, 21, 22] (by decide +kernel) (by decide +kernel)
set_option maxRecDepth 20000 in
theorem gX3_usesUpFailure_X4_get : GoodIn wsX3_usesUpFailure (wsV RX3 23 RX4 yX4_get wsX4_get) := goodIn_app (goodIn_of _ (by decide +kernel)) ggX3_usesUpFailure_X4_get
set_option maxRecDepth 20000 in
theorem ggX3_usesUpFailure_X4_set : GoodIn wsX3_usesUpFailure wsX4_set := goodIn_r _ [14, 7, 8, 9, 19, 20, 21, 22] (by decide +kernel) (by decide +kernel)
set_option maxRecDepth 20000 in
theorem gX3_usesUpFailure_X4_set : GoodIn wsX3_usesUpFailure (wsV RX3 27 RX4 yX4_set wsX4_set) := goodIn_app (goodIn_of _ (by decide +kernel)) ggX3_usesUpFailure_X4_set
theorem dX3_usesUpFailure_0 : decode cX3_usesUpFailure 0 = .ok (.aload_n 0, 1) := by decide +kernel
theorem dX3_usesUpFailure_1 : decode cX3_usesUpFailure 1 = .ok (.getfield 20, 3) := by decide +kernel
theorem dX3_usesUpFailure_4 : decode cX3_usesUpFailure 4 = .ok (.iload_n 1, 1) := by decide +kernel
theorem dX3_usesUpFailure_5 : decode cX3_usesUpFailure 5 = .ok (.iconst 0, 1) := by decide +kernel
theorem dX3_usesUpFailure_6 : decode cX3_usesUpFailure 6 = .ok (.invokevirtual 23, 3) := by decide +kernel
theorem dX3_usesUpFailure_9 : decode cX3_usesUpFailure 9 = .ok (.istore_n 2, 1) := by decide +kernel
theorem dX3_usesUpFailure_10 : decode cX3_usesUpFailure 10 = .ok (.iload_n 2, 1) := by decide +kernel
theorem dX3_usesUpFailure_11 : decode cX3_usesUpFailure 11 = .ok (.ifCond .le 15, 3) := by decide +kernel
theorem dX3_usesUpFailure_14 : decode cX3_usesUpFailure 14 = .ok (.aload_n 0, 1) := by decide +kernel
theorem dX3_usesUpFailure_15 : decode cX3_usesUpFailure 15 = .ok (.getfield 20, 3) := by decide +kernel
theorem dX3_usesUpFailure_18 : decode cX3_usesUpFailure 18 = .ok (.iload_n 1, 1) := by decide +kernel
theorem dX3_usesUpFailure_19 : decode cX3_usesUpFailure 19 = .ok (.iconst 0, 1) := by decide +kernel
theorem dX3_usesUpFailure_20 : decode cX3_usesUpFailure 20 = .ok (.iload_n 2, 1) := by decide +kernel
theorem dX3_usesUpFailure_21 : decode cX3_usesUpFailure 21 = .ok (.iconst 1, 1) := by decide +kernel
theorem dX3_usesUpFailure_22 : decode cX3_usesUpFailure 22 = .ok (.isub, 1) := by decide +kernel
theorem dX3_usesUpFailure_23 : decode cX3_usesUpFailure 23 = .ok (.invokevirtual 27, 3) := by decide +kernel
theorem dX3_usesUpFailure_26 : decode cX3_usesUpFailure 26 = .ok (.iload_n 2, 1) := by decide +kernel
theorem dX3_usesUpFailure_27 : decode cX3_usesUpFailure 27 = .ok (.ifCond .le 7, 3) := by decide +kernel
theorem dX3_usesUpFailure_30 : decode cX3_usesUpFailure 30 = .ok (.iconst 1, 1) := by decide +kernel
theorem dX3_usesUpFailure_31 : decode cX3_usesUpFailure 31 = .ok (.goto 4, 3) := by decide +kernel
theorem dX3_usesUpFailure_34 : decode cX3_usesUpFailure 34 = .ok (.iconst 0, 1) := by decide +kernel
theorem dX3_usesUpFailure_35 : decode cX3_usesUpFailure 35 = .ok (.ireturn, 1) := by decide +kernel
set_option maxRecDepth 20000 in
theorem ggX3_bringBack_X3_isAway : GoodIn wsX3_bringBack wsX3_isAway := goodIn_r _ [6, 1, 7, 8, 9, 10, 11, 12, 13, 14, 15, 20, 21, 22, 23, 24, 25, 26, 27] (by decide +kernel) (by decide +kernel)
set_option maxRecDepth 20000 in
theorem gX3_bringBack_X3_isAway : GoodIn wsX3_bringBack (wsV RX3 30 RX3 yX3_isAway wsX3_isAway) := goodIn_app (goodIn_of _ (by decide +kernel)) ggX3_bringBack_X3_isAway
set_option maxRecDepth 20000 in
theorem ggX3_bringBack_X4_set : GoodIn wsX3_bringBack wsX4_set := goodIn_r _ [19, 12, 13, 14, 24, 25, 26, 27] (by decide +kernel) (by decide +kernel)
set_option maxRecDepth 20000 in
theorem gX3_bringBack_X4_set : GoodIn wsX3_bringBack (wsV RX3 27 RX4 yX4_set wsX4_set) := goodIn_app (goodIn_of _ (by decide +kernel)) ggX3_bringBack_X4_set
theorem dX3_bringBack_0 : decode cX3_bringBack 0 = .ok (.aload_n 0, 1) := by decide +kernel
theorem dX3_bringBack_1 : decode cX3_bringBack 1 = .ok (.iload_n 1, 1) := by decide +kernel
theorem dX3_bringBack_2 : decode cX3_bringBack 2 = .ok (.invokevirtual 30, 3) := by decide +kernel
theorem dX3_bringBack_5 : decode cX3_bringBack 5 = .ok (.istore_n 3, 1) := by decide +kernel
theorem dX3_bringBack_6 : decode cX3_bringBack 6 = .ok (.aload_n 0, 1) := by decide +kernel
theorem dX3_bringBack_7 : decode cX3_bringBack 7 = .ok (.getfield 14, 3) := by decide +kernel
theorem dX3_bringBack_10 : decode cX3_bringBack 10 = .ok (.iload_n 1, 1) := by decide +kernel
theorem dX3_bringBack_11 : decode cX3_bringBack 11 = .ok (.iconst 1, 1) := by decide +kernel
theorem dX3_bringBack_12 : decode cX3_bringBack 12 = .ok (.iconst 0, 1) := by decide +kernel
theorem dX3_bringBack_13 : decode cX3_bringBack 13 = .ok (.invokevirtual 27, 3) := by decide +kernel
theorem dX3_bringBack_16 : decode cX3_bringBack 16 = .ok (.aload_n 0, 1) := by decide +kernel
theorem dX3_bringBack_17 : decode cX3_bringBack 17 = .ok (.getfield 14, 3) := by decide +kernel
theorem dX3_bringBack_20 : decode cX3_bringBack 20 = .ok (.iload_n 1, 1) := by decide +kernel
theorem dX3_bringBack_21 : decode cX3_bringBack 21 = .ok (.iconst 0, 1) := by decide +kernel
theorem dX3_bringBack_22 : decode cX3_bringBack 22 = .ok (.iload_n 2, 1) := by decide +kernel
theorem dX3_bringBack_23 : decode cX3_bringBack 23 = .ok (.ifCond .eq 7, 3) := by decide +kernel
theorem dX3_bringBack_26 : decode cX3_bringBack 26 = .ok (.iconst 1, 1) := by decide +kernel
theorem dX3_bringBack_27 : decode cX3_bringBack 27 = .ok (.goto 4, 3) := by decide +kernel
theorem dX3_bringBack_30 : decode cX3_bringBack 30 = .ok (.iconst 0, 1) := by decide +kernel
theorem dX3_bringBack_31 : decode cX3_bringBack 31 = .ok (.invokevirtual 27, 3) := by decide +kernel
theorem dX3_bringBack_34 : decode cX3_bringBack 34 = .ok (.iload_n 3, 1) := by decide +kernel
theorem dX3_bringBack_35 : decode cX3_bringBack 35 = .ok (.ireturn, 1) := by decide +kernel
set_option maxRecDepth 20000 in
theorem ggX3_isAway_X4_get : GoodIn wsX3_isAway wsX4_get := goodIn_r _ [6, 7, 8, 9, 10, 15, 16, 17, 18] (by decide +kernel) (by decide +kernel)
set_option maxRecDepth 20000 in
theorem gX3_isAway_X4_get : GoodIn wsX3_isAway (wsV RX3 23 RX4 yX4_get wsX4_get) := goodIn_app (goodIn_of _ (by decide +kernel)) ggX3_isAway_X4_get
theorem dX3_isAway_0 : decode cX3_isAway 0 = .ok (.aload_n 0, 1) := by decide +kernel
theorem dX3_isAway_1 : decode cX3_isAway 1 = .ok (.getfield 14, 3) := by decide +kernel
theorem dX3_isAway_4 : decode cX3_isAway 4 = .ok (.iload_n 1, 1) := by decide +kernel
theorem dX3_isAway_5 : decode cX3_isAway 5 = .ok (.iconst 1, 1) := by decide +kernel
theorem dX3_isAway_6 : decode cX3_isAway 6 = .ok (.invokevirtual 23, 3) := by decide +kernel
theorem dX3_isAway_9 : decode cX3_isAway 9 = .ok (.iconst 1, 1) := by decide +kernel
theorem dX3_isAway_10 : decode cX3_isAway 10 = .ok (.if_icmp .ne 7, 3) := by decide +kernel
theorem dX3_isAway_13 : decode cX3_isAway 13 = .ok (.iconst 1, 1) := by decide +kernel
theorem dX3_isAway_14 : decode cX3_isAway 14 = .ok (.goto 4, 3) := by decide +kernel
theorem dX3_isAway_17 : decode cX3_isAway 17 = .ok (.iconst 0, 1) := by decide +kernel
theorem dX3_isAway_18 : decode cX3_isAway 18 = .ok (.ireturn, 1) := by decide +kernel
set_option maxRecDepth 20000 in
theorem ggX3_allAway_X3_isAway : GoodIn wsX3_allAway wsX3_isAway := goodIn_r _ [5, 6, 7, 8, 9, 10, 11, 12, 13, 14, 15, 16, 17, 18, 19, 20, 21, 22, 23] (by decide +kernel) (by decide +kernel)
set_option maxRecDepth 20000 in
theorem gX3_allAway_X3_isAway : GoodIn wsX3_allAway (wsV RX3 30 RX3 yX3_isAway wsX3_isAway) := goodIn_app (goodIn_of _ (by decide +kernel)) ggX3_allAway_X3_isAway
theorem dX3_allAway_0 : decode cX3_allAway 0 = .ok (.iconst 0, 1) := by decide +kernel
theorem dX3_allAway_1 : decode cX3_allAway 1 = .ok (.istore_n 1, 1) := by decide +kernel
theorem dX3_allAway_2 : decode cX3_allAway 2 = .ok (.iconst 0, 1) := by decide +kernel
theorem dX3_allAway_3 : decode cX3_allAway 3 = .ok (.istore_n 2, 1) := by decide +kernel
theorem dX3_allAway_4 : decode cX3_allAway 4 = .ok (.iload_n 2, 1) := by decide +kernel
theorem dX3_allAway_5 : decode cX3_allAway 5 = .ok (.iconst 3, 1) := by decide +kernel
theorem dX3_allAway_6 : decode cX3_allAway 6 = .ok (.if_icmp .ge 23, 3) := by decide +kernel
theorem dX3_allAway_9 : decode cX3_allAway 9 = .ok (.aload_n 0, 1) := by decide +kernel
theorem dX3_allAway_10 : decode cX3_allAway 10 = .ok (.iload_n 2, 1) := by decide +kernel
theorem dX3_allAway_11 : decode cX3_allAway 11 = .ok (.invokevirtual 30, 3) := by decide +kernel
theorem dX3_allAway_14 : decode cX3_allAway 14 = .ok (.ifCond .eq 9, 3) := by decide +kernel
theorem dX3_allAway_17 : decode cX3_allAway 17 = .ok (.iload_n 1, 1) := by decide +kernel
theorem dX3_allAway_18 : decode cX3_allAway 18 = .ok (.iconst 1, 1) := by decide +kernel
theorem dX3_allAway_19 : decode cX3_allAway 19 = .ok (.iload_n 2, 1) := by decide +kernel
theorem dX3_allAway_20 : decode cX3_allAway 20 = .ok (.ishl, 1) := by decide +kernel
theorem dX3_allAway_21 : decode cX3_allAway 21 = .ok (.ior, 1) := by decide +kernel
theorem dX3_allAway_22 : decode cX3_allAway 22 = .ok (.istore_n 1, 1) := by decide +kernel
theorem dX3_allAway_23 : decode cX3_allAway 23 = .ok (.iinc 2 1, 3) := by decide +kernel
theorem dX3_allAway_26 : decode cX3_allAway 26 = .ok (.goto (-22), 3) := by decide +kernel
theorem dX3_allAway_29 : decode cX3_allAway 29 = .ok (.iload_n 1, 1) := by decide +kernel
theorem dX3_allAway_30 : decode cX3_allAway 30 = .ok (.ireturn, 1) := by decide +kernel
set_option maxRecDepth 20000 in
theorem ggX3_takeNext_X3_isAway : GoodIn wsX3_takeNext wsX3_isAway := goodIn_r _ [6, 7, 8, 9, 10, 11, 12, 13, 14, 15, 16, 17, 18, 19, 20, 21, 22, 23, 24] (by decide +kernel) (by decide +kernel)
set_option maxRecDepth 20000 in
theorem gX3_takeNext_X3_isAway : GoodIn wsX3_takeNext (wsV RX3 30 RX3 yX3_isAway wsX3_isAway) := goodIn_app (goodIn_of _ (by decide +kernel)) ggX3_takeNext_X3_isAway
theorem dX3_takeNext_0 : decode cX3_takeNext 0 = .ok (.iconst 0, 1) := by decide +kernel
theorem dX3_takeNext_1 : decode cX3_takeNext 1 = .ok (.istore_n 1, 1) := by decide +kernel
theorem dX3_takeNext_2 : decode cX3_takeNext 2 = .ok (.iload_n 1, 1) := by decide +kernel
theorem dX3_takeNext_3 : decode cX3_takeNext 3 = .ok (.iconst 3, 1) := by decide +kernel
theorem dX3_takeNext_4 : decode cX3_takeNext 4 = .ok (.if_icmp .ge 36, 3) := by decide +kernel
theorem dX3_takeNext_7 : decode cX3_takeNext 7 = .ok (.aload_n 0, 1) := by decide +kernel
theorem dX3_takeNext_8 : decode cX3_takeNext 8 = .ok (.getfield 34, 3) := by decide +kernel
theorem dX3_takeNext_11 : decode cX3_takeNext 11 = .ok (.istore_n 2, 1) := by decide +kernel
theorem dX3_takeNext_12 : decode cX3_takeNext 12 = .ok (.aload_n 0, 1) := by decide +kernel
theorem dX3_takeNext_13 : decode cX3_takeNext 13 = .ok (.aload_n 0, 1) := by decide +kernel
theorem dX3_takeNext_14 : decode cX3_takeNext 14 = .ok (.getfield 34, 3) := by decide +kernel
theorem dX3_takeNext_17 : decode cX3_takeNext 17 = .ok (.iconst 1, 1) := by decide +kernel
theorem dX3_takeNext_18 : decode cX3_takeNext 18 = .ok (.iadd, 1) := by decide +kernel
theorem dX3_takeNext_19 : decode cX3_takeNext 19 = .ok (.iconst 3, 1) := by decide +kernel
theorem dX3_takeNext_20 : decode cX3_takeNext 20 = .ok (.irem, 1) := by decide +kernel
theorem dX3_takeNext_21 : decode cX3_takeNext 21 = .ok (.putfield 34, 3) := by decide +kernel
theorem dX3_takeNext_24 : decode cX3_takeNext 24 = .ok (.aload_n 0, 1) := by decide +kernel
theorem dX3_takeNext_25 : decode cX3_takeNext 25 = .ok (.iload_n 2, 1) := by decide +kernel
theorem dX3_takeNext_26 : decode cX3_takeNext 26 = .ok (.invokevirtual 30, 3) := by decide +kernel
theorem dX3_takeNext_29 : decode cX3_takeNext 29 = .ok (.ifCond .ne 5, 3) := by decide +kernel
theorem dX3_takeNext_32 : decode cX3_takeNext 32 = .ok (.iload_n 2, 1) := by decide +kernel
theorem dX3_takeNext_33 : decode cX3_takeNext 33 = .ok (.ireturn, 1) := by decide +kernel
theorem dX3_takeNext_34 : decode cX3_takeNext 34 = .ok (.iinc 1 1, 3) := by decide +kernel
theorem dX3_takeNext_37 : decode cX3_takeNext 37 = .ok (.goto (-35), 3) := by decide +kernel
theorem dX3_takeNext_40 : decode cX3_takeNext 40 = .ok (.iconst 3, 1) := by decide +kernel
theorem dX3_takeNext_41 : decode cX3_takeNext 41 = .ok (.ireturn, 1) := by decide +kernel
set_option maxRecDepth 20000 in
theorem ggX3_tells_X4_get : GoodIn wsX3_tells wsX4_get := goodIn_r _ [6, 7, 8, 9, 10, 15, 16, 17, 18] (by decide +kernel) (by decide +kernel)
set_option maxRecDepth 20000 in
theorem gX3_tells_X4_get : GoodIn wsX3_tells (wsV RX3 23 RX4 yX4_get wsX4_get) := goodIn_app (goodIn_of _ (by decide +kernel)) ggX3_tells_X4_get
theorem dX3_tells_0 : decode cX3_tells 0 = .ok (.aload_n 0, 1) := by decide +kernel
theorem dX3_tells_1 : decode cX3_tells 1 = .ok (.getfield 14, 3) := by decide +kernel
theorem dX3_tells_4 : decode cX3_tells 4 = .ok (.iload_n 1, 1) := by decide +kernel
theorem dX3_tells_5 : decode cX3_tells 5 = .ok (.iconst 0, 1) := by decide +kernel
theorem dX3_tells_6 : decode cX3_tells 6 = .ok (.invokevirtual 23, 3) := by decide +kernel
theorem dX3_tells_9 : decode cX3_tells 9 = .ok (.iconst 1, 1) := by decide +kernel
theorem dX3_tells_10 : decode cX3_tells 10 = .ok (.if_icmp .ne 13, 3) := by decide +kernel
theorem dX3_tells_13 : decode cX3_tells 13 = .ok (.iload_n 2, 1) := by decide +kernel
theorem dX3_tells_14 : decode cX3_tells 14 = .ok (.iconst 1, 1) := by decide +kernel
theorem dX3_tells_15 : decode cX3_tells 15 = .ok (.iadd, 1) := by decide +kernel
theorem dX3_tells_16 : decode cX3_tells 16 = .ok (.sipush 1000, 3) := by decide +kernel
theorem dX3_tells_19 : decode cX3_tells 19 = .ok (.irem, 1) := by decide +kernel
theorem dX3_tells_20 : decode cX3_tells 20 = .ok (.goto 4, 3) := by decide +kernel
theorem dX3_tells_23 : decode cX3_tells 23 = .ok (.iload_n 2, 1) := by decide +kernel
theorem dX3_tells_24 : decode cX3_tells 24 = .ok (.ireturn, 1) := by decide +kernel
theorem dX4_init_0 : decode cX4_init 0 = .ok (.aload_n 0, 1) := by decide +kernel
theorem dX4_init_1 : decode cX4_init 1 = .ok (.invokespecial 3, 3) := by decide +kernel
theorem dX4_init_4 : decode cX4_init 4 = .ok (.aload_n 0, 1) := by decide +kernel
theorem dX4_init_5 : decode cX4_init 5 = .ok (.iload_n 1, 1) := by decide +kernel
theorem dX4_init_6 : decode cX4_init 6 = .ok (.ifCond .ge 7, 3) := by decide +kernel
theorem dX4_init_9 : decode cX4_init 9 = .ok (.iconst 0, 1) := by decide +kernel
theorem dX4_init_10 : decode cX4_init 10 = .ok (.goto 4, 3) := by decide +kernel
theorem dX4_init_13 : decode cX4_init 13 = .ok (.iload_n 1, 1) := by decide +kernel
theorem dX4_init_14 : decode cX4_init 14 = .ok (.putfield 9, 3) := by decide +kernel
theorem dX4_init_17 : decode cX4_init 17 = .ok (.aload_n 0, 1) := by decide +kernel
theorem dX4_init_18 : decode cX4_init 18 = .ok (.iload_n 2, 1) := by decide +kernel
theorem dX4_init_19 : decode cX4_init 19 = .ok (.ifCond .ge 7, 3) := by decide +kernel
theorem dX4_init_22 : decode cX4_init 22 = .ok (.iconst 0, 1) := by decide +kernel
theorem dX4_init_23 : decode cX4_init 23 = .ok (.goto 4, 3) := by decide +kernel
theorem dX4_init_26 : decode cX4_init 26 = .ok (.iload_n 2, 1) := by decide +kernel
theorem dX4_init_27 : decode cX4_init 27 = .ok (.putfield 15, 3) := by decide +kernel
theorem dX4_init_30 : decode cX4_init 30 = .ok (.aload_n 0, 1) := by decide +kernel
theorem dX4_init_31 : decode cX4_init 31 = .ok (.iload_n 3, 1) := by decide +kernel
theorem dX4_init_32 : decode cX4_init 32 = .ok (.putfield 18, 3) := by decide +kernel
theorem dX4_init_35 : decode cX4_init 35 = .ok (.aload_n 0, 1) := by decide +kernel
theorem dX4_init_36 : decode cX4_init 36 = .ok (.getfield 9, 3) := by decide +kernel
theorem dX4_init_39 : decode cX4_init 39 = .ok (.aload_n 0, 1) := by decide +kernel
theorem dX4_init_40 : decode cX4_init 40 = .ok (.getfield 15, 3) := by decide +kernel
theorem dX4_init_43 : decode cX4_init 43 = .ok (.imul, 1) := by decide +kernel
theorem dX4_init_44 : decode cX4_init 44 = .ok (.istore 4, 2) := by decide +kernel
theorem dX4_init_46 : decode cX4_init 46 = .ok (.aload_n 0, 1) := by decide +kernel
theorem dX4_init_47 : decode cX4_init 47 = .ok (.iload 4, 2) := by decide +kernel
theorem dX4_init_49 : decode cX4_init 49 = .ok (.ifCond .ge 7, 3) := by decide +kernel
theorem dX4_init_52 : decode cX4_init 52 = .ok (.iconst 0, 1) := by decide +kernel
theorem dX4_init_53 : decode cX4_init 53 = .ok (.goto 5, 3) := by decide +kernel
theorem dX4_init_56 : decode cX4_init 56 = .ok (.iload 4, 2) := by decide +kernel
theorem dX4_init_58 : decode cX4_init 58 = .ok (.newarray .int, 2) := by decide +kernel
theorem dX4_init_60 : decode cX4_init 60 = .ok (.putfield 21, 3) := by decide +kernel
theorem dX4_init_63 : decode cX4_init 63 = .ok (.iconst 0, 1) := by decide +kernel
theorem dX4_init_64 : decode cX4_init 64 = .ok (.istore 5, 2) := by decide +kernel
theorem dX4_init_66 : decode cX4_init 66 = .ok (.iload 5, 2) := by decide +kernel
theorem dX4_init_68 : decode cX4_init 68 = .ok (.aload_n 0, 1) := by decide +kernel
theorem dX4_init_69 : decode cX4_init 69 = .ok (.getfield 21, 3) := by decide +kernel
theorem dX4_init_72 : decode cX4_init 72 = .ok (.arraylength, 1) := by decide +kernel
theorem dX4_init_73 : decode cX4_init 73 = .ok (.if_icmp .ge 17, 3) := by decide +kernel
theorem dX4_init_76 : decode cX4_init 76 = .ok (.aload_n 0, 1) := by decide +kernel
theorem dX4_init_77 : decode cX4_init 77 = .ok (.getfield 21, 3) := by decide +kernel
theorem dX4_init_80 : decode cX4_init 80 = .ok (.iload 5, 2) := by decide +kernel
theorem dX4_init_82 : decode cX4_init 82 = .ok (.iload_n 3, 1) := by decide +kernel
theorem dX4_init_83 : decode cX4_init 83 = .ok (.iastore, 1) := by decide +kernel
theorem dX4_init_84 : decode cX4_init 84 = .ok (.iinc 5 1, 3) := by decide +kernel
theorem dX4_init_87 : decode cX4_init 87 = .ok (.goto (-21), 3) := by decide +kernel
theorem dX4_init_90 : decode cX4_init 90 = .ok (.return_, 1) := by decide +kernel
theorem dX4_get_0 : decode cX4_get 0 = .ok (.iload_n 1, 1) := by decide +kernel
theorem dX4_get_1 : decode cX4_get 1 = .ok (.ifCond .lt 27, 3) := by decide +kernel
theorem dX4_get_4 : decode cX4_get 4 = .ok (.iload_n 1, 1) := by decide +kernel
theorem dX4_get_5 : decode cX4_get 5 = .ok (.aload_n 0, 1) := by decide +kernel
theorem dX4_get_6 : decode cX4_get 6 = .ok (.getfield 9, 3) := by decide +kernel
theorem dX4_get_9 : decode cX4_get 9 = .ok (.if_icmp .ge 19, 3) := by decide +kernel
theorem dX4_get_12 : decode cX4_get 12 = .ok (.iload_n 2, 1) := by decide +kernel
theorem dX4_get_13 : decode cX4_get 13 = .ok (.ifCond .lt 15, 3) := by decide +kernel
theorem dX4_get_16 : decode cX4_get 16 = .ok (.iload_n 2, 1) := by decide +kernel
theorem dX4_get_17 : decode cX4_get 17 = .ok (.aload_n 0, 1) := by decide +kernel
theorem dX4_get_18 : decode cX4_get 18 = .ok (.getfield 15, 3) := by decide +kernel
theorem dX4_get_21 : decode cX4_get 21 = .ok (.if_icmp .ge 7, 3) := by decide +kernel
theorem dX4_get_24 : decode cX4_get 24 = .ok (.iconst 1, 1) := by decide +kernel
theorem dX4_get_25 : decode cX4_get 25 = .ok (.goto 4, 3) := by decide +kernel
theorem dX4_get_28 : decode cX4_get 28 = .ok (.iconst 0, 1) := by decide +kernel
theorem dX4_get_29 : decode cX4_get 29 = .ok (.istore_n 3, 1) := by decide +kernel
theorem dX4_get_30 : decode cX4_get 30 = .ok (.iload_n 3, 1) := by decide +kernel
theorem dX4_get_31 : decode cX4_get 31 = .ok (.ifCond .eq 14, 3) := by decide +kernel
theorem dX4_get_34 : decode cX4_get 34 = .ok (.iload_n 1, 1) := by decide +kernel
theorem dX4_get_35 : decode cX4_get 35 = .ok (.aload_n 0, 1) := by decide +kernel
theorem dX4_get_36 : decode cX4_get 36 = .ok (.getfield 15, 3) := by decide +kernel
theorem dX4_get_39 : decode cX4_get 39 = .ok (.imul, 1) := by decide +kernel
theorem dX4_get_40 : decode cX4_get 40 = .ok (.iload_n 2, 1) := by decide +kernel
theorem dX4_get_41 : decode cX4_get 41 = .ok (.iadd, 1) := by decide +kernel
theorem dX4_get_42 : decode cX4_get 42 = .ok (.goto 4, 3) := by decide +kernel
theorem dX4_get_45 : decode cX4_get 45 = .ok (.iconst (-1), 1) := by decide +kernel
theorem dX4_get_46 : decode cX4_get 46 = .ok (.istore 4, 2) := by decide +kernel
theorem dX4_get_48 : decode cX4_get 48 = .ok (.iload 4, 2) := by decide +kernel
theorem dX4_get_50 : decode cX4_get 50 = .ok (.ifCond .lt 23, 3) := by decide +kernel
theorem dX4_get_53 : decode cX4_get 53 = .ok (.iload 4, 2) := by decide +kernel
theorem dX4_get_55 : decode cX4_get 55 = .ok (.aload_n 0, 1) := by decide +kernel
theorem dX4_get_56 : decode cX4_get 56 = .ok (.getfield 21, 3) := by decide +kernel
theorem dX4_get_59 : decode cX4_get 59 = .ok (.arraylength, 1) := by decide +kernel
theorem dX4_get_60 : decode cX4_get 60 = .ok (.if_icmp .ge 13, 3) := by decide +kernel
theorem dX4_get_63 : decode cX4_get 63 = .ok (.aload_n 0, 1) := by decide +kernel
theorem dX4_get_64 : decode cX4_get 64 = .ok (.getfield 21, 3) := by decide +kernel
theorem dX4_get_67 : decode cX4_get 67 = .ok (.iload 4, 2) := by decide +kernel
theorem dX4_get_69 : decode cX4_get 69 = .ok (.iaload, 1) := by decide +kernel
theorem dX4_get_70 : decode cX4_get 70 = .ok (.goto 7, 3) := by decide +kernel
theorem dX4_get_73 : decode cX4_get 73 = .ok (.aload_n 0, 1) := by decide +kernel
theorem dX4_get_74 : decode cX4_get 74 = .ok (.getfield 18, 3) := by decide +kernel
theorem dX4_get_77 : decode cX4_get 77 = .ok (.ireturn, 1) := by decide +kernel
theorem dX4_set_0 : decode cX4_set 0 = .ok (.iload_n 1, 1) := by decide +kernel
theorem dX4_set_1 : decode cX4_set 1 = .ok (.ifCond .lt 27, 3) := by decide +kernel
theorem dX4_set_4 : decode cX4_set 4 = .ok (.iload_n 1, 1) := by decide +kernel
theorem dX4_set_5 : decode cX4_set 5 = .ok (.aload_n 0, 1) := by decide +kernel
theorem dX4_set_6 : decode cX4_set 6 = .ok (.getfield 9, 3) := by decide +kernel
theorem dX4_set_9 : decode cX4_set 9 = .ok (.if_icmp .ge 19, 3) := by decide +kernel
theorem dX4_set_12 : decode cX4_set 12 = .ok (.iload_n 2, 1) := by decide +kernel
theorem dX4_set_13 : decode cX4_set 13 = .ok (.ifCond .lt 15, 3) := by decide +kernel
theorem dX4_set_16 : decode cX4_set 16 = .ok (.iload_n 2, 1) := by decide +kernel
theorem dX4_set_17 : decode cX4_set 17 = .ok (.aload_n 0, 1) := by decide +kernel
theorem dX4_set_18 : decode cX4_set 18 = .ok (.getfield 15, 3) := by decide +kernel
theorem dX4_set_21 : decode cX4_set 21 = .ok (.if_icmp .ge 7, 3) := by decide +kernel
theorem dX4_set_24 : decode cX4_set 24 = .ok (.iconst 1, 1) := by decide +kernel
theorem dX4_set_25 : decode cX4_set 25 = .ok (.goto 4, 3) := by decide +kernel
theorem dX4_set_28 : decode cX4_set 28 = .ok (.iconst 0, 1) := by decide +kernel
theorem dX4_set_29 : decode cX4_set 29 = .ok (.istore 4, 2) := by decide +kernel
theorem dX4_set_31 : decode cX4_set 31 = .ok (.iload 4, 2) := by decide +kernel
theorem dX4_set_33 : decode cX4_set 33 = .ok (.ifCond .eq 14, 3) := by decide +kernel
theorem dX4_set_36 : decode cX4_set 36 = .ok (.iload_n 1, 1) := by decide +kernel
theorem dX4_set_37 : decode cX4_set 37 = .ok (.aload_n 0, 1) := by decide +kernel
theorem dX4_set_38 : decode cX4_set 38 = .ok (.getfield 15, 3) := by decide +kernel
theorem dX4_set_41 : decode cX4_set 41 = .ok (.imul, 1) := by decide +kernel
theorem dX4_set_42 : decode cX4_set 42 = .ok (.iload_n 2, 1) := by decide +kernel
theorem dX4_set_43 : decode cX4_set 43 = .ok (.iadd, 1) := by decide +kernel
theorem dX4_set_44 : decode cX4_set 44 = .ok (.goto 4, 3) := by decide +kernel
theorem dX4_set_47 : decode cX4_set 47 = .ok (.iconst (-1), 1) := by decide +kernel
theorem dX4_set_48 : decode cX4_set 48 = .ok (.istore 5, 2) := by decide +kernel
theorem dX4_set_50 : decode cX4_set 50 = .ok (.iload 5, 2) := by decide +kernel
theorem dX4_set_52 : decode cX4_set 52 = .ok (.ifCond .lt 21, 3) := by decide +kernel
theorem dX4_set_55 : decode cX4_set 55 = .ok (.iload 5, 2) := by decide +kernel
theorem dX4_set_57 : decode cX4_set 57 = .ok (.aload_n 0, 1) := by decide +kernel
theorem dX4_set_58 : decode cX4_set 58 = .ok (.getfield 21, 3) := by decide +kernel
theorem dX4_set_61 : decode cX4_set 61 = .ok (.arraylength, 1) := by decide +kernel
theorem dX4_set_62 : decode cX4_set 62 = .ok (.if_icmp .ge 11, 3) := by decide +kernel
theorem dX4_set_65 : decode cX4_set 65 = .ok (.aload_n 0, 1) := by decide +kernel
theorem dX4_set_66 : decode cX4_set 66 = .ok (.getfield 21, 3) := by decide +kernel
theorem dX4_set_69 : decode cX4_set 69 = .ok (.iload 5, 2) := by decide +kernel
theorem dX4_set_71 : decode cX4_set 71 = .ok (.iload_n 3, 1) := by decide +kernel
theorem dX4_set_72 : decode cX4_set 72 = .ok (.iastore, 1) := by decide +kernel
theorem dX4_set_73 : decode cX4_set 73 = .ok (.return_, 1) := by decide +kernel
theorem dX4_clear_0 : decode cX4_clear 0 = .ok (.iload_n 1, 1) := by decide +kernel
theorem dX4_clear_1 : decode cX4_clear 1 = .ok (.ifCond .lt 20, 3) := by decide +kernel
theorem dX4_clear_4 : decode cX4_clear 4 = .ok (.iload_n 1, 1) := by decide +kernel
theorem dX4_clear_5 : decode cX4_clear 5 = .ok (.aload_n 0, 1) := by decide +kernel
theorem dX4_clear_6 : decode cX4_clear 6 = .ok (.getfield 9, 3) := by decide +kernel
theorem dX4_clear_9 : decode cX4_clear 9 = .ok (.if_icmp .ge 12, 3) := by decide +kernel
theorem dX4_clear_12 : decode cX4_clear 12 = .ok (.iload_n 1, 1) := by decide +kernel
theorem dX4_clear_13 : decode cX4_clear 13 = .ok (.aload_n 0, 1) := by decide +kernel
theorem dX4_clear_14 : decode cX4_clear 14 = .ok (.getfield 15, 3) := by decide +kernel
theorem dX4_clear_17 : decode cX4_clear 17 = .ok (.imul, 1) := by decide +kernel
theorem dX4_clear_18 : decode cX4_clear 18 = .ok (.goto 8, 3) := by decide +kernel
theorem dX4_clear_21 : decode cX4_clear 21 = .ok (.aload_n 0, 1) := by decide +kernel
theorem dX4_clear_22 : decode cX4_clear 22 = .ok (.getfield 21, 3) := by decide +kernel
theorem dX4_clear_25 : decode cX4_clear 25 = .ok (.arraylength, 1) := by decide +kernel
theorem dX4_clear_26 : decode cX4_clear 26 = .ok (.istore_n 2, 1) := by decide +kernel
theorem dX4_clear_27 : decode cX4_clear 27 = .ok (.iload_n 2, 1) := by decide +kernel
theorem dX4_clear_28 : decode cX4_clear 28 = .ok (.istore_n 3, 1) := by decide +kernel
theorem dX4_clear_29 : decode cX4_clear 29 = .ok (.iload_n 3, 1) := by decide +kernel
theorem dX4_clear_30 : decode cX4_clear 30 = .ok (.ifCond .lt 38, 3) := by decide +kernel
theorem dX4_clear_33 : decode cX4_clear 33 = .ok (.iload_n 3, 1) := by decide +kernel
theorem dX4_clear_34 : decode cX4_clear 34 = .ok (.aload_n 0, 1) := by decide +kernel
theorem dX4_clear_35 : decode cX4_clear 35 = .ok (.getfield 21, 3) := by decide +kernel
theorem dX4_clear_38 : decode cX4_clear 38 = .ok (.arraylength, 1) := by decide +kernel
theorem dX4_clear_39 : decode cX4_clear 39 = .ok (.if_icmp .ge 29, 3) := by decide +kernel
theorem dX4_clear_42 : decode cX4_clear 42 = .ok (.iload_n 3, 1) := by decide +kernel
theorem dX4_clear_43 : decode cX4_clear 43 = .ok (.iload_n 2, 1) := by decide +kernel
theorem dX4_clear_44 : decode cX4_clear 44 = .ok (.aload_n 0, 1) := by decide +kernel
theorem dX4_clear_45 : decode cX4_clear 45 = .ok (.getfield 15, 3) := by decide +kernel
theorem dX4_clear_48 : decode cX4_clear 48 = .ok (.iadd, 1) := by decide +kernel
theorem dX4_clear_49 : decode cX4_clear 49 = .ok (.if_icmp .ge 19, 3) := by decide +kernel
theorem dX4_clear_52 : decode cX4_clear 52 = .ok (.aload_n 0, 1) := by decide +kernel
theorem dX4_clear_53 : decode cX4_clear 53 = .ok (.getfield 21, 3) := by decide +kernel
theorem dX4_clear_56 : decode cX4_clear 56 = .ok (.iload_n 3, 1) := by decide +kernel
theorem dX4_clear_57 : decode cX4_clear 57 = .ok (.aload_n 0, 1) := by decide +kernel
theorem dX4_clear_58 : decode cX4_clear 58 = .ok (.getfield 18, 3) := by decide +kernel
theorem dX4_clear_61 : decode cX4_clear 61 = .ok (.iastore, 1) := by decide +kernel
theorem dX4_clear_62 : decode cX4_clear 62 = .ok (.iinc 3 1, 3) := by decide +kernel
theorem dX4_clear_65 : decode cX4_clear 65 = .ok (.goto (-36), 3) := by decide +kernel
theorem dX4_clear_68 : decode cX4_clear 68 = .ok (.return_, 1) := by decide +kernel
set_option maxRecDepth 20000 in
theorem ggX4_copy_X4_get : GoodIn wsX4_copy wsX4_get := goodIn_r _ [6, 7, 1, 8, 9, 14, 15, 16, 17] (by decide +kernel) (by decide +kernel)
set_option maxRecDepth 20000 in
theorem gX4_copy_X4_get : GoodIn wsX4_copy (wsV RX4 25 RX4 yX4_get wsX4_get) := goodIn_app (goodIn_of _ (by decide +kernel)) ggX4_copy_X4_get
set_option maxRecDepth 20000 in
theorem ggX4_copy_X4_set : GoodIn wsX4_copy wsX4_set := goodIn_r _ [13, 7, 1, 8, 14, 15, 16, 17] (by decide +kernel) (by decide +kernel)
set_option maxRecDepth 20000 in
theorem gX4_copy_X4_set : GoodIn wsX4_copy (wsV RX4 29 RX4 yX4_set wsX4_set) := goodIn_app (goodIn_of _ (by decide +kernel)) ggX4_copy_X4_set
theorem dX4_copy_0 : decode cX4_copy 0 = .ok (.iconst 0, 1) := by decide +kernel
theorem dX4_copy_1 : decode cX4_copy 1 = .ok (.istore 4, 2) := by decide +kernel
theorem dX4_copy_3 : decode cX4_copy 3 = .ok (.iload 4, 2) := by decide +kernel
theorem dX4_copy_5 : decode cX4_copy 5 = .ok (.aload_n 0, 1) := by decide +kernel
theorem dX4_copy_6 : decode cX4_copy 6 = .ok (.getfield 15, 3) := by decide +kernel
theorem dX4_copy_9 : decode cX4_copy 9 = .ok (.if_icmp .ge 32, 3) := by decide +kernel
theorem dX4_copy_12 : decode cX4_copy 12 = .ok (.iload 4, 2) := by decide +kernel
theorem dX4_copy_14 : decode cX4_copy 14 = .ok (.aload_n 2, 1) := by decide +kernel
theorem dX4_copy_15 : decode cX4_copy 15 = .ok (.getfield 15, 3) := by decide +kernel
theorem dX4_copy_18 : decode cX4_copy 18 = .ok (.if_icmp .ge 23, 3) := by decide +kernel
theorem dX4_copy_21 : decode cX4_copy 21 = .ok (.aload_n 0, 1) := by decide +kernel
theorem dX4_copy_22 : decode cX4_copy 22 = .ok (.iload_n 1, 1) := by decide +kernel
theorem dX4_copy_23 : decode cX4_copy 23 = .ok (.iload 4, 2) := by decide +kernel
theorem dX4_copy_25 : decode cX4_copy 25 = .ok (.aload_n 2, 1) := by decide +kernel
theorem dX4_copy_26 : decode cX4_copy 26 = .ok (.iload_n 3, 1) := by decide +kernel
theorem dX4_copy_27 : decode cX4_copy 27 = .ok (.iload 4, 2) := by decide +kernel
theorem dX4_copy_29 : decode cX4_copy 29 = .ok (.invokevirtual 25, 3) := by decide +kernel
theorem dX4_copy_32 : decode cX4_copy 32 = .ok (.invokevirtual 29, 3) := by decide +kernel
theorem dX4_copy_35 : decode cX4_copy 35 = .ok (.iinc 4 1, 3) := by decide +kernel
theorem dX4_copy_38 : decode cX4_copy 38 = .ok (.goto (-35), 3) := by decide +kernel
theorem dX4_copy_41 : decode cX4_copy 41 = .ok (.return_, 1) := by decide +kernel
set_option maxRecDepth 20000 in
theorem ggX4_isSame_X4_get : GoodIn wsX4_isSame wsX4_get := goodIn_r _ [5, 6, 7, 8, 9, 10, 11, 12, 13] (by decide +kernel) (by decide +kernel)
set_option maxRecDepth 20000 in
theorem gX4_isSame_X4_get : GoodIn wsX4_isSame (wsV RX4 25 RX4 yX4_get wsX4_get) := goodIn_app (goodIn_of _ (by decide +kernel)) ggX4_isSame_X4_get
theorem dX4_isSame_0 : decode cX4_isSame 0 = .ok (.iload 4, 2) := by decide +kernel
theorem dX4_isSame_2 : decode cX4_isSame 2 = .ok (.istore 6, 2) := by decide +kernel
theorem dX4_isSame_4 : decode cX4_isSame 4 = .ok (.iload 6, 2) := by decide +kernel
theorem dX4_isSame_6 : decode cX4_isSame 6 = .ok (.iload 5, 2) := by decide +kernel
theorem dX4_isSame_8 : decode cX4_isSame 8 = .ok (.if_icmp .ge 28, 3) := by decide +kernel
theorem dX4_isSame_11 : decode cX4_isSame 11 = .ok (.aload_n 0, 1) := by decide +kernel
theorem dX4_isSame_12 : decode cX4_isSame 12 = .ok (.iload_n 1, 1) := by decide +kernel
theorem dX4_isSame_13 : decode cX4_isSame 13 = .ok (.iload 6, 2) := by decide +kernel
theorem dX4_isSame_15 : decode cX4_isSame 15 = .ok (.invokevirtual 25, 3) := by decide +kernel
theorem dX4_isSame_18 : decode cX4_isSame 18 = .ok (.aload_n 2, 1) := by decide +kernel
theorem dX4_isSame_19 : decode cX4_isSame 19 = .ok (.iload_n 3, 1) := by decide +kernel
theorem dX4_isSame_20 : decode cX4_isSame 20 = .ok (.iload 6, 2) := by decide +kernel
theorem dX4_isSame_22 : decode cX4_isSame 22 = .ok (.invokevirtual 25, 3) := by decide +kernel
theorem dX4_isSame_25 : decode cX4_isSame 25 = .ok (.if_icmp .eq 5, 3) := by decide +kernel
theorem dX4_isSame_28 : decode cX4_isSame 28 = .ok (.iconst 0, 1) := by decide +kernel
theorem dX4_isSame_29 : decode cX4_isSame 29 = .ok (.ireturn, 1) := by decide +kernel
theorem dX4_isSame_30 : decode cX4_isSame 30 = .ok (.iinc 6 1, 3) := by decide +kernel
theorem dX4_isSame_33 : decode cX4_isSame 33 = .ok (.goto (-29), 3) := by decide +kernel
theorem dX4_isSame_36 : decode cX4_isSame 36 = .ok (.iconst 1, 1) := by decide +kernel
theorem dX4_isSame_37 : decode cX4_isSame 37 = .ok (.ireturn, 1) := by decide +kernel
set_option maxRecDepth 20000 in
theorem ggX4_howManyFilled_X4_get : GoodIn wsX4_howManyFilled wsX4_get := goodIn_r _ [6, 1, 7, 8, 9, 10, 11, 12, 13] (by decide +kernel) (by decide +kernel)
set_option maxRecDepth 20000 in
theorem gX4_howManyFilled_X4_get : GoodIn wsX4_howManyFilled (wsV RX4 25 RX4 yX4_get wsX4_get) := goodIn_app (goodIn_of _ (by decide +kernel)) ggX4_howManyFilled_X4_get
theorem dX4_howManyFilled_0 : decode cX4_howManyFilled 0 = .ok (.iconst 0, 1) := by decide +kernel
theorem dX4_howManyFilled_1 : decode cX4_howManyFilled 1 = .ok (.istore_n 1, 1) := by decide +kernel
theorem dX4_howManyFilled_2 : decode cX4_howManyFilled 2 = .ok (.iconst 0, 1) := by decide +kernel
theorem dX4_howManyFilled_3 : decode cX4_howManyFilled 3 = .ok (.istore_n 2, 1) := by decide +kernel
theorem dX4_howManyFilled_4 : decode cX4_howManyFilled 4 = .ok (.iload_n 2, 1) := by decide +kernel
theorem dX4_howManyFilled_5 : decode cX4_howManyFilled 5 = .ok (.aload_n 0, 1) := by decide +kernel
theorem dX4_howManyFilled_6 : decode cX4_howManyFilled 6 = .ok (.getfield 9, 3) := by decide +kernel
theorem dX4_howManyFilled_9 : decode cX4_howManyFilled 9 = .ok (.if_icmp .ge 22, 3) := by decide +kernel
theorem dX4_howManyFilled_12 : decode cX4_howManyFilled 12 = .ok (.aload_n 0, 1) := by decide +kernel
theorem dX4_howManyFilled_13 : decode cX4_howManyFilled 13 = .ok (.iload_n 2, 1) := by decide +kernel
theorem dX4_howManyFilled_14 : decode cX4_howManyFilled 14 = .ok (.iconst 1, 1) := by decide +kernel
theorem dX4_howManyFilled_15 : decode cX4_howManyFilled 15 = .ok (.invokevirtual 25, 3) := by decide +kernel
theorem dX4_howManyFilled_18 : decode cX4_howManyFilled 18 = .ok (.iconst (-1), 1) := by decide +kernel
theorem dX4_howManyFilled_19 : decode cX4_howManyFilled 19 = .ok (.if_icmp .eq 6, 3) := by decide +kernel
theorem dX4_howManyFilled_22 : decode cX4_howManyFilled 22 = .ok (.iinc 1 1, 3) := by decide +kernel
theorem dX4_howManyFilled_25 : decode cX4_howManyFilled 25 = .ok (.iinc 2 1, 3) := by decide +kernel
theorem dX4_howManyFilled_28 : decode cX4_howManyFilled 28 = .ok (.goto (-24), 3) := by decide +kernel
theorem dX4_howManyFilled_31 : decode cX4_howManyFilled 31 = .ok (.iload_n 1, 1) := by decide +kernel
theorem dX4_howManyFilled_32 : decode cX4_howManyFilled 32 = .ok (.ireturn, 1) := by decide +kernel
set_option maxRecDepth 20000 in
theorem ggX5_init_X4_init : GoodIn wsX5_init wsX4_init := goodIn_r _ [11, 12, 2, 3, 13, 14, 15, 16, 17, 18, 19, 20, 21] (by decide +kernel) (by decide +kernel)
set_option maxRecDepth 20000 in
theorem gX5_init_X4_init : GoodIn wsX5_init (wsX4_init) := ggX5_init_X4_init
