theorem dX7_comparesOne_154 : decode cX7_comparesOne 154 = .ok (.getfield 63, 3) := by decide +kernel
theorem dX7_comparesOne_157 : decode cX7_comparesOne 157 = .ok (.iload_n 2, 1) := by decide +kernel
theorem dX7_comparesOne_158 : decode cX7_comparesOne 158 = .ok (.laload, 1) := by decide +kernel
theorem dX7_comparesOne_159 : decode cX7_comparesOne 159 = .ok (.lcmp, 1) := by decide +kernel
theorem dX7_comparesOne_160 : decode cX7_comparesOne 160 = .ok (.ifCond .ne 7, 3) := by decide +kernel
theorem dX7_comparesOne_163 : decode cX7_comparesOne 163 = .ok (.iconst 1, 1) := by decide +kernel
theorem dX7_comparesOne_164 : decode cX7_comparesOne 164 = .ok (.goto 8, 3) := by decide +kernel
theorem dX7_comparesOne_167 : decode cX7_comparesOne 167 = .ok (.iconst 0, 1) := by decide +kernel
theorem dX7_comparesOne_168 : decode cX7_comparesOne 168 = .ok (.goto 4, 3) := by decide +kernel
theorem dX7_comparesOne_171 : decode cX7_comparesOne 171 = .ok (.iconst 1, 1) := by decide +kernel
theorem dX7_comparesOne_172 : decode cX7_comparesOne 172 = .ok (.istore 7, 2) := by decide +kernel
theorem dX7_comparesOne_174 : decode cX7_comparesOne 174 = .ok (.iload 5, 2) := by decide +kernel
theorem dX7_comparesOne_176 : decode cX7_comparesOne 176 = .ok (.iconst 1, 1) := by decide +kernel
theorem dX7_comparesOne_177 : decode cX7_comparesOne 177 = .ok (.if_icmp .le 68, 3) := by decide +kernel
theorem dX7_comparesOne_180 : decode cX7_comparesOne 180 = .ok (.iload 5, 2) := by decide +kernel
theorem dX7_comparesOne_182 : decode cX7_comparesOne 182 = .ok (.iload 6, 2) := by decide +kernel
theorem dX7_comparesOne_184 : decode cX7_comparesOne 184 = .ok (.iload_n 1, 1) := by decide +kernel
theorem dX7_comparesOne_185 : decode cX7_comparesOne 185 = .ok (.iconst 2, 1) := by decide +kernel
theorem dX7_comparesOne_186 : decode cX7_comparesOne 186 = .ok (.irem, 1) := by decide +kernel
theorem dX7_comparesOne_187 : decode cX7_comparesOne 187 = .ok (.invokestatic 182, 3) := by decide +kernel
theorem dX7_comparesOne_190 : decode cX7_comparesOne 190 = .ok (.istore 8, 2) := by decide +kernel
theorem dX7_comparesOne_192 : decode cX7_comparesOne 192 = .ok (.aload_n 0, 1) := by decide +kernel
theorem dX7_comparesOne_193 : decode cX7_comparesOne 193 = .ok (.getfield 84, 3) := by decide +kernel
theorem dX7_comparesOne_196 : decode cX7_comparesOne 196 = .ok (.iload 8, 2) := by decide +kernel
theorem dX7_comparesOne_198 : decode cX7_comparesOne 198 = .ok (.iaload, 1) := by decide +kernel
theorem dX7_comparesOne_199 : decode cX7_comparesOne 199 = .ok (.ifCond .ne 10, 3) := by decide +kernel
theorem dX7_comparesOne_202 : decode cX7_comparesOne 202 = .ok (.aload_n 0, 1) := by decide +kernel
theorem dX7_comparesOne_203 : decode cX7_comparesOne 203 = .ok (.iload 8, 2) := by decide +kernel
theorem dX7_comparesOne_205 : decode cX7_comparesOne 205 = .ok (.invokevirtual 186, 3) := by decide +kernel
theorem dX7_comparesOne_208 : decode cX7_comparesOne 208 = .ok (.return_, 1) := by decide +kernel
theorem dX7_comparesOne_209 : decode cX7_comparesOne 209 = .ok (.aload_n 0, 1) := by decide +kernel
theorem dX7_comparesOne_210 : decode cX7_comparesOne 210 = .ok (.getfield 84, 3) := by decide +kernel
theorem dX7_comparesOne_213 : decode cX7_comparesOne 213 = .ok (.iload 8, 2) := by decide +kernel
theorem dX7_comparesOne_215 : decode cX7_comparesOne 215 = .ok (.iaload, 1) := by decide +kernel
theorem dX7_comparesOne_216 : decode cX7_comparesOne 216 = .ok (.iconst 2, 1) := by decide +kernel
theorem dX7_comparesOne_217 : decode cX7_comparesOne 217 = .ok (.if_icmp .ne 25, 3) := by decide +kernel
theorem dX7_comparesOne_220 : decode cX7_comparesOne 220 = .ok (.aload_n 0, 1) := by decide +kernel
theorem dX7_comparesOne_221 : decode cX7_comparesOne 221 = .ok (.getfield 87, 3) := by decide +kernel
theorem dX7_comparesOne_224 : decode cX7_comparesOne 224 = .ok (.iload 8, 2) := by decide +kernel
theorem dX7_comparesOne_226 : decode cX7_comparesOne 226 = .ok (.iaload, 1) := by decide +kernel
theorem dX7_comparesOne_227 : decode cX7_comparesOne 227 = .ok (.i2l, 1) := by decide +kernel
theorem dX7_comparesOne_228 : decode cX7_comparesOne 228 = .ok (.aload_n 0, 1) := by decide +kernel
theorem dX7_comparesOne_229 : decode cX7_comparesOne 229 = .ok (.getfield 63, 3) := by decide +kernel
theorem dX7_comparesOne_232 : decode cX7_comparesOne 232 = .ok (.iload_n 2, 1) := by decide +kernel
theorem dX7_comparesOne_233 : decode cX7_comparesOne 233 = .ok (.laload, 1) := by decide +kernel
theorem dX7_comparesOne_234 : decode cX7_comparesOne 234 = .ok (.lcmp, 1) := by decide +kernel
theorem dX7_comparesOne_235 : decode cX7_comparesOne 235 = .ok (.ifCond .ne 7, 3) := by decide +kernel
theorem dX7_comparesOne_238 : decode cX7_comparesOne 238 = .ok (.iconst 1, 1) := by decide +kernel
theorem dX7_comparesOne_239 : decode cX7_comparesOne 239 = .ok (.goto 4, 3) := by decide +kernel
theorem dX7_comparesOne_242 : decode cX7_comparesOne 242 = .ok (.iconst 0, 1) := by decide +kernel
theorem dX7_comparesOne_243 : decode cX7_comparesOne 243 = .ok (.istore 7, 2) := by decide +kernel
theorem dX7_comparesOne_245 : decode cX7_comparesOne 245 = .ok (.iload 7, 2) := by decide +kernel
theorem dX7_comparesOne_247 : decode cX7_comparesOne 247 = .ok (.ifCond .eq 16, 3) := by decide +kernel
theorem dX7_comparesOne_250 : decode cX7_comparesOne 250 = .ok (.aload_n 0, 1) := by decide +kernel
theorem dX7_comparesOne_251 : decode cX7_comparesOne 251 = .ok (.getfield 105, 3) := by decide +kernel
theorem dX7_comparesOne_254 : decode cX7_comparesOne 254 = .ok (.iload_n 1, 1) := by decide +kernel
theorem dX7_comparesOne_255 : decode cX7_comparesOne 255 = .ok (.dup2, 1) := by decide +kernel
theorem dX7_comparesOne_256 : decode cX7_comparesOne 256 = .ok (.iaload, 1) := by decide +kernel
theorem dX7_comparesOne_257 : decode cX7_comparesOne 257 = .ok (.iconst 1, 1) := by decide +kernel
theorem dX7_comparesOne_258 : decode cX7_comparesOne 258 = .ok (.iadd, 1) := by decide +kernel
theorem dX7_comparesOne_259 : decode cX7_comparesOne 259 = .ok (.iastore, 1) := by decide +kernel
theorem dX7_comparesOne_260 : decode cX7_comparesOne 260 = .ok (.goto 32, 3) := by decide +kernel
theorem dX7_comparesOne_263 : decode cX7_comparesOne 263 = .ok (.aload_n 0, 1) := by decide +kernel
theorem dX7_comparesOne_264 : decode cX7_comparesOne 264 = .ok (.getfield 93, 3) := by decide +kernel
theorem dX7_comparesOne_267 : decode cX7_comparesOne 267 = .ok (.iload_n 1, 1) := by decide +kernel
theorem dX7_comparesOne_268 : decode cX7_comparesOne 268 = .ok (.bipush 10, 2) := by decide +kernel
theorem dX7_comparesOne_270 : decode cX7_comparesOne 270 = .ok (.aload_n 0, 1) := by decide +kernel
theorem dX7_comparesOne_271 : decode cX7_comparesOne 271 = .ok (.getfield 105, 3) := by decide +kernel
theorem dX7_comparesOne_274 : decode cX7_comparesOne 274 = .ok (.iload_n 1, 1) := by decide +kernel
theorem dX7_comparesOne_275 : decode cX7_comparesOne 275 = .ok (.iaload, 1) := by decide +kernel
theorem dX7_comparesOne_276 : decode cX7_comparesOne 276 = .ok (.iadd, 1) := by decide +kernel
theorem dX7_comparesOne_277 : decode cX7_comparesOne 277 = .ok (.iastore, 1) := by decide +kernel
theorem dX7_comparesOne_278 : decode cX7_comparesOne 278 = .ok (.aload_n 0, 1) := by decide +kernel
theorem dX7_comparesOne_279 : decode cX7_comparesOne 279 = .ok (.getfield 102, 3) := by decide +kernel
theorem dX7_comparesOne_282 : decode cX7_comparesOne 282 = .ok (.iload_n 1, 1) := by decide +kernel
theorem dX7_comparesOne_283 : decode cX7_comparesOne 283 = .ok (.iconst 0, 1) := by decide +kernel
theorem dX7_comparesOne_284 : decode cX7_comparesOne 284 = .ok (.bastore, 1) := by decide +kernel
theorem dX7_comparesOne_285 : decode cX7_comparesOne 285 = .ok (.aload_n 0, 1) := by decide +kernel
theorem dX7_comparesOne_286 : decode cX7_comparesOne 286 = .ok (.getfield 105, 3) := by decide +kernel
theorem dX7_comparesOne_289 : decode cX7_comparesOne 289 = .ok (.iload_n 1, 1) := by decide +kernel
theorem dX7_comparesOne_290 : decode cX7_comparesOne 290 = .ok (.iconst 0, 1) := by decide +kernel
theorem dX7_comparesOne_291 : decode cX7_comparesOne 291 = .ok (.iastore, 1) := by decide +kernel
theorem dX7_comparesOne_292 : decode cX7_comparesOne 292 = .ok (.return_, 1) := by decide +kernel
theorem dX7_notes_0 : decode cX7_notes 0 = .ok (.aload_n 0, 1) := by decide +kernel
theorem dX7_notes_1 : decode cX7_notes 1 = .ok (.getfield 111, 3) := by decide +kernel
theorem dX7_notes_4 : decode cX7_notes 4 = .ok (.iconst 5, 1) := by decide +kernel
theorem dX7_notes_5 : decode cX7_notes 5 = .ok (.iload_n 1, 1) := by decide +kernel
theorem dX7_notes_6 : decode cX7_notes 6 = .ok (.imul, 1) := by decide +kernel
theorem dX7_notes_7 : decode cX7_notes 7 = .ok (.aload_n 0, 1) := by decide +kernel
theorem dX7_notes_8 : decode cX7_notes 8 = .ok (.getfield 108, 3) := by decide +kernel
theorem dX7_notes_11 : decode cX7_notes 11 = .ok (.iload_n 1, 1) := by decide +kernel
theorem dX7_notes_12 : decode cX7_notes 12 = .ok (.iaload, 1) := by decide +kernel
theorem dX7_notes_13 : decode cX7_notes 13 = .ok (.iadd, 1) := by decide +kernel
theorem dX7_notes_14 : decode cX7_notes 14 = .ok (.iload_n 2, 1) := by decide +kernel
theorem dX7_notes_15 : decode cX7_notes 15 = .ok (.iastore, 1) := by decide +kernel
theorem dX7_notes_16 : decode cX7_notes 16 = .ok (.aload_n 0, 1) := by decide +kernel
theorem dX7_notes_17 : decode cX7_notes 17 = .ok (.getfield 114, 3) := by decide +kernel
theorem dX7_notes_20 : decode cX7_notes 20 = .ok (.iconst 5, 1) := by decide +kernel
theorem dX7_notes_21 : decode cX7_notes 21 = .ok (.iload_n 1, 1) := by decide +kernel
theorem dX7_notes_22 : decode cX7_notes 22 = .ok (.imul, 1) := by decide +kernel
theorem dX7_notes_23 : decode cX7_notes 23 = .ok (.aload_n 0, 1) := by decide +kernel
theorem dX7_notes_24 : decode cX7_notes 24 = .ok (.getfield 108, 3) := by decide +kernel
theorem dX7_notes_27 : decode cX7_notes 27 = .ok (.iload_n 1, 1) := by decide +kernel
theorem dX7_notes_28 : decode cX7_notes 28 = .ok (.iaload, 1) := by decide +kernel
theorem dX7_notes_29 : decode cX7_notes 29 = .ok (.iadd, 1) := by decide +kernel
theorem dX7_notes_30 : decode cX7_notes 30 = .ok (.iload_n 3, 1) := by decide +kernel
theorem dX7_notes_31 : decode cX7_notes 31 = .ok (.iastore, 1) := by decide +kernel
theorem dX7_notes_32 : decode cX7_notes 32 = .ok (.aload_n 0, 1) := by decide +kernel
theorem dX7_notes_33 : decode cX7_notes 33 = .ok (.getfield 117, 3) := by decide +kernel
theorem dX7_notes_36 : decode cX7_notes 36 = .ok (.iconst 5, 1) := by decide +kernel
theorem dX7_notes_37 : decode cX7_notes 37 = .ok (.iload_n 1, 1) := by decide +kernel
theorem dX7_notes_38 : decode cX7_notes 38 = .ok (.imul, 1) := by decide +kernel
theorem dX7_notes_39 : decode cX7_notes 39 = .ok (.aload_n 0, 1) := by decide +kernel
theorem dX7_notes_40 : decode cX7_notes 40 = .ok (.getfield 108, 3) := by decide +kernel
theorem dX7_notes_43 : decode cX7_notes 43 = .ok (.iload_n 1, 1) := by decide +kernel
theorem dX7_notes_44 : decode cX7_notes 44 = .ok (.iaload, 1) := by decide +kernel
theorem dX7_notes_45 : decode cX7_notes 45 = .ok (.iadd, 1) := by decide +kernel
theorem dX7_notes_46 : decode cX7_notes 46 = .ok (.lload 4, 2) := by decide +kernel
theorem dX7_notes_48 : decode cX7_notes 48 = .ok (.lastore, 1) := by decide +kernel
theorem dX7_notes_49 : decode cX7_notes 49 = .ok (.aload_n 0, 1) := by decide +kernel
theorem dX7_notes_50 : decode cX7_notes 50 = .ok (.getfield 108, 3) := by decide +kernel
theorem dX7_notes_53 : decode cX7_notes 53 = .ok (.iload_n 1, 1) := by decide +kernel
theorem dX7_notes_54 : decode cX7_notes 54 = .ok (.dup2, 1) := by decide +kernel
theorem dX7_notes_55 : decode cX7_notes 55 = .ok (.iaload, 1) := by decide +kernel
theorem dX7_notes_56 : decode cX7_notes 56 = .ok (.iconst 1, 1) := by decide +kernel
theorem dX7_notes_57 : decode cX7_notes 57 = .ok (.iadd, 1) := by decide +kernel
theorem dX7_notes_58 : decode cX7_notes 58 = .ok (.iastore, 1) := by decide +kernel
theorem dX7_notes_59 : decode cX7_notes 59 = .ok (.return_, 1) := by decide +kernel
set_option maxRecDepth 20000 in
theorem ggX7_readsOne_X7_finishes : GoodIn wsX7_readsOne wsX7_finishes := goodIn_r _ [13, 6, 7, 14, 15, 16, 17, 119, 120, 121, 122, 123, 124, 125, 126, 127, 128, 129, 130, 131, 132, 133, 134, 135, 136, 137, 138, 139, 140, 141, 142, 143, 144, 145, 146, 147, 148, 149, 150, 151, 152, 153, 154, 155, 156, 157, 158, 159, 160, 161, 162, 163, 164, 165, 166] (by decide +kernel) (by decide +kernel)
set_option maxRecDepth 20000 in
theorem gX7_readsOne_X7_finishes : GoodIn wsX7_readsOne (wsV RX7 175 RX7 yX7_finishes wsX7_finishes) := goodIn_app (goodIn_of _ (by decide +kernel)) ggX7_readsOne_X7_finishes
set_option maxRecDepth 20000 in
theorem ggX7_readsOne_X7_endsReading : GoodIn wsX7_readsOne wsX7_endsReading := goodIn_r _ [21, 1, 22, 23, 8, 16, 24, 25, 26, 27, 28, 29, 30, 31, 32, 12, 33, 34, 4, 5, 35, 36, 37, 38, 39, 40, 41, 42, 43, 44, 45, 46, 47, 48, 3, 9, 10, 11, 13, 6, 7, 14, 15, 17, 49, 50, 51, 52, 53, 54, 55, 56, 57, 58, 59, 60, 61, 62, 63, 64, 65, 66, 67, 68, 69, 70, 71, 72, 73, 74, 75, 76, 77, 78, 79, 80, 81, 82, 83, 84, 85, 86, 87, 88, 89, 90, 91, 92, 93, 94, 95, 96, 97, 98, 99, 100, 101, 102, 103, 119, 120, 121, 122, 123, 124, 125, 126, 127, 128, 129, 130, 131, 132, 133, 134, 135, 136, 137, 138, 139, 140, 141, 142, 143, 144, 145, 146, 147, 148, 149, 150, 151, 152, 153, 154, 155, 156, 157, 158, 159, 160, 161, 162, 163, 164, 165, 166] (by decide +kernel) (by decide +kernel)
set_option maxRecDepth 20000 in
theorem gX7_readsOne_X7_endsReading : GoodIn wsX7_readsOne (wsV RX7 190 RX7 yX7_endsReading wsX7_endsReading) := goodIn_app (goodIn_of _ (by decide +kernel)) ggX7_readsOne_X7_endsReading
set_option maxRecDepth 20000 in
theorem ggX7_readsOne_X7_nodeOf : GoodIn wsX7_readsOne wsX7_nodeOf := goodIn_r _ [106] (by decide +kernel) (by decide +kernel)
set_option maxRecDepth 20000 in
theorem gX7_readsOne_X7_nodeOf : GoodIn wsX7_readsOne (va_wsS RX7 182 yX7_nodeOf wsX7_nodeOf) := goodIn_app (goodIn_of _ (by decide +kernel)) ggX7_readsOne_X7_nodeOf
set_option maxRecDepth 20000 in
theorem ggX7_readsOne_X7_pushes : GoodIn wsX7_readsOne wsX7_pushes := goodIn_r _ [110, 111, 15, 6, 27, 22, 2, 17, 1, 78, 79, 80, 112, 16, 113, 56, 57, 58, 12, 59, 60, 23, 61, 25, 62, 3, 4, 5, 119, 120, 121, 122, 123, 124, 125, 126, 127, 128, 129, 130, 131, 132, 133, 134, 135, 136, 137, 138, 139, 140, 141, 142, 143, 144, 145, 146, 147, 148, 149, 150, 151, 152, 153, 154, 155, 156, 157, 158, 159, 160, 161, 162, 163, 164, 165, 166] (by decide +kernel) (by decide +kernel)
set_option maxRecDepth 20000 in
theorem gX7_readsOne_X7_pushes : GoodIn wsX7_readsOne (wsV RX7 186 RX7 yX7_pushes wsX7_pushes) := goodIn_app (goodIn_of _ (by decide +kernel)) ggX7_readsOne_X7_pushes
set_option maxRecDepth 20000 in
theorem ggX7_readsOne_X7_notes : GoodIn wsX7_readsOne wsX7_notes := goodIn_r _ [43, 34, 22, 44, 35, 119, 120, 121, 122, 123, 124, 125, 126, 127, 128, 129, 130, 131, 132, 133, 134, 135, 136, 137, 138, 139, 140, 141, 142, 143, 144, 145, 146, 147, 148, 149, 150, 151, 152, 153, 154, 155, 156, 157, 158, 159, 160, 161, 162, 163, 164, 165, 166] (by decide +kernel) (by decide +kernel)
set_option maxRecDepth 20000 in
theorem gX7_readsOne_X7_notes : GoodIn wsX7_readsOne (wsV RX7 193 RX7 yX7_notes wsX7_notes) := goodIn_app (goodIn_of _ (by decide +kernel)) ggX7_readsOne_X7_notes
set_option maxRecDepth 20000 in
theorem ggX7_readsOne_X7_folder : GoodIn wsX7_readsOne wsX7_folder := goodIn_r _ [117, 118, 8, 119, 120, 121, 122, 123, 124, 125, 126, 127, 128, 129, 130, 131, 132, 133, 134, 135, 136, 137, 138, 139, 140, 141, 142, 143, 144, 145, 146, 147, 148, 149, 150, 151, 152, 153, 154, 155, 156, 157, 158, 159, 160, 161, 162, 163, 164, 165, 166] (by decide +kernel) (by decide +kernel)
set_option maxRecDepth 20000 in
theorem gX7_readsOne_X7_folder : GoodIn wsX7_readsOne (wsV RX7 179 RX7 yX7_folder wsX7_folder) := goodIn_app (goodIn_of _ (by decide +kernel)) ggX7_readsOne_X7_folder
theorem dX7_readsOne_0 : decode cX7_readsOne 0 = .ok (.iload_n 1, 1) := by decide +kernel
theorem dX7_readsOne_1 : decode cX7_readsOne 1 = .ok (.iconst 2, 1) := by decide +kernel
theorem dX7_readsOne_2 : decode cX7_readsOne 2 = .ok (.idiv, 1) := by decide +kernel
theorem dX7_readsOne_3 : decode cX7_readsOne 3 = .ok (.istore_n 2, 1) := by decide +kernel
theorem dX7_readsOne_4 : decode cX7_readsOne 4 = .ok (.aload_n 0, 1) := by decide +kernel
theorem dX7_readsOne_5 : decode cX7_readsOne 5 = .ok (.getfield 13, 3) := by decide +kernel
theorem dX7_readsOne_8 : decode cX7_readsOne 8 = .ok (.iload_n 2, 1) := by decide +kernel
theorem dX7_readsOne_9 : decode cX7_readsOne 9 = .ok (.iaload, 1) := by decide +kernel
theorem dX7_readsOne_10 : decode cX7_readsOne 10 = .ok (.istore_n 3, 1) := by decide +kernel
theorem dX7_readsOne_11 : decode cX7_readsOne 11 = .ok (.iload_n 3, 1) := by decide +kernel
theorem dX7_readsOne_12 : decode cX7_readsOne 12 = .ok (.iconst (-1), 1) := by decide +kernel
theorem dX7_readsOne_13 : decode cX7_readsOne 13 = .ok (.if_icmp .ne 12, 3) := by decide +kernel
theorem dX7_readsOne_16 : decode cX7_readsOne 16 = .ok (.aload_n 0, 1) := by decide +kernel
theorem dX7_readsOne_17 : decode cX7_readsOne 17 = .ok (.iload_n 1, 1) := by decide +kernel
theorem dX7_readsOne_18 : decode cX7_readsOne 18 = .ok (.bipush (-2), 2) := by decide +kernel
theorem dX7_readsOne_20 : decode cX7_readsOne 20 = .ok (.iconst 4, 1) := by decide +kernel
theorem dX7_readsOne_21 : decode cX7_readsOne 21 = .ok (.invokevirtual 175, 3) := by decide +kernel
theorem dX7_readsOne_24 : decode cX7_readsOne 24 = .ok (.return_, 1) := by decide +kernel
theorem dX7_readsOne_25 : decode cX7_readsOne 25 = .ok (.iload_n 3, 1) := by decide +kernel
theorem dX7_readsOne_26 : decode cX7_readsOne 26 = .ok (.iconst 2, 1) := by decide +kernel
theorem dX7_readsOne_27 : decode cX7_readsOne 27 = .ok (.if_icmp .ne 9, 3) := by decide +kernel
theorem dX7_readsOne_30 : decode cX7_readsOne 30 = .ok (.iload_n 1, 1) := by decide +kernel
theorem dX7_readsOne_31 : decode cX7_readsOne 31 = .ok (.iconst 2, 1) := by decide +kernel
theorem dX7_readsOne_32 : decode cX7_readsOne 32 = .ok (.irem, 1) := by decide +kernel
theorem dX7_readsOne_33 : decode cX7_readsOne 33 = .ok (.goto 9, 3) := by decide +kernel
theorem dX7_readsOne_36 : decode cX7_readsOne 36 = .ok (.aload_n 0, 1) := by decide +kernel
theorem dX7_readsOne_37 : decode cX7_readsOne 37 = .ok (.getfield 105, 3) := by decide +kernel
theorem dX7_readsOne_40 : decode cX7_readsOne 40 = .ok (.iload_n 1, 1) := by decide +kernel
theorem dX7_readsOne_41 : decode cX7_readsOne 41 = .ok (.iaload, 1) := by decide +kernel
theorem dX7_readsOne_42 : decode cX7_readsOne 42 = .ok (.istore 4, 2) := by decide +kernel
theorem dX7_readsOne_44 : decode cX7_readsOne 44 = .ok (.iload_n 3, 1) := by decide +kernel
theorem dX7_readsOne_45 : decode cX7_readsOne 45 = .ok (.iconst 2, 1) := by decide +kernel
theorem dX7_readsOne_46 : decode cX7_readsOne 46 = .ok (.if_icmp .ne 16, 3) := by decide +kernel
theorem dX7_readsOne_49 : decode cX7_readsOne 49 = .ok (.aload_n 0, 1) := by decide +kernel
theorem dX7_readsOne_50 : decode cX7_readsOne 50 = .ok (.getfield 105, 3) := by decide +kernel
theorem dX7_readsOne_53 : decode cX7_readsOne 53 = .ok (.iload_n 1, 1) := by decide +kernel
theorem dX7_readsOne_54 : decode cX7_readsOne 54 = .ok (.iaload, 1) := by decide +kernel
theorem dX7_readsOne_55 : decode cX7_readsOne 55 = .ok (.ifCond .le 7, 3) := by decide +kernel
theorem dX7_readsOne_58 : decode cX7_readsOne 58 = .ok (.iconst 1, 1) := by decide +kernel
theorem dX7_readsOne_59 : decode cX7_readsOne 59 = .ok (.goto 4, 3) := by decide +kernel
theorem dX7_readsOne_62 : decode cX7_readsOne 62 = .ok (.iconst 0, 1) := by decide +kernel
theorem dX7_readsOne_63 : decode cX7_readsOne 63 = .ok (.istore 5, 2) := by decide +kernel
theorem dX7_readsOne_65 : decode cX7_readsOne 65 = .ok (.iload 5, 2) := by decide +kernel
theorem dX7_readsOne_67 : decode cX7_readsOne 67 = .ok (.ifCond .ne 14, 3) := by decide +kernel
theorem dX7_readsOne_70 : decode cX7_readsOne 70 = .ok (.iload 4, 2) := by decide +kernel
theorem dX7_readsOne_72 : decode cX7_readsOne 72 = .ok (.aload_n 0, 1) := by decide +kernel
theorem dX7_readsOne_73 : decode cX7_readsOne 73 = .ok (.getfield 25, 3) := by decide +kernel
theorem dX7_readsOne_76 : decode cX7_readsOne 76 = .ok (.iload_n 2, 1) := by decide +kernel
theorem dX7_readsOne_77 : decode cX7_readsOne 77 = .ok (.iaload, 1) := by decide +kernel
theorem dX7_readsOne_78 : decode cX7_readsOne 78 = .ok (.if_icmp .lt 9, 3) := by decide +kernel
theorem dX7_readsOne_81 : decode cX7_readsOne 81 = .ok (.aload_n 0, 1) := by decide +kernel
theorem dX7_readsOne_82 : decode cX7_readsOne 82 = .ok (.iload_n 1, 1) := by decide +kernel
theorem dX7_readsOne_83 : decode cX7_readsOne 83 = .ok (.invokevirtual 190, 3) := by decide +kernel
theorem dX7_readsOne_86 : decode cX7_readsOne 86 = .ok (.return_, 1) := by decide +kernel
theorem dX7_readsOne_87 : decode cX7_readsOne 87 = .ok (.aload_n 0, 1) := by decide +kernel
theorem dX7_readsOne_88 : decode cX7_readsOne 88 = .ok (.getfield 28, 3) := by decide +kernel
theorem dX7_readsOne_91 : decode cX7_readsOne 91 = .ok (.iconst 4, 1) := by decide +kernel
theorem dX7_readsOne_92 : decode cX7_readsOne 92 = .ok (.iload_n 2, 1) := by decide +kernel
theorem dX7_readsOne_93 : decode cX7_readsOne 93 = .ok (.imul, 1) := by decide +kernel
theorem dX7_readsOne_94 : decode cX7_readsOne 94 = .ok (.iload 4, 2) := by decide +kernel
theorem dX7_readsOne_96 : decode cX7_readsOne 96 = .ok (.iadd, 1) := by decide +kernel
theorem dX7_readsOne_97 : decode cX7_readsOne 97 = .ok (.iaload, 1) := by decide +kernel
theorem dX7_readsOne_98 : decode cX7_readsOne 98 = .ok (.istore 6, 2) := by decide +kernel
theorem dX7_readsOne_100 : decode cX7_readsOne 100 = .ok (.aload_n 0, 1) := by decide +kernel
theorem dX7_readsOne_101 : decode cX7_readsOne 101 = .ok (.getfield 31, 3) := by decide +kernel
theorem dX7_readsOne_104 : decode cX7_readsOne 104 = .ok (.iconst 4, 1) := by decide +kernel
theorem dX7_readsOne_105 : decode cX7_readsOne 105 = .ok (.iload_n 2, 1) := by decide +kernel
theorem dX7_readsOne_106 : decode cX7_readsOne 106 = .ok (.imul, 1) := by decide +kernel
theorem dX7_readsOne_107 : decode cX7_readsOne 107 = .ok (.iload 4, 2) := by decide +kernel
theorem dX7_readsOne_109 : decode cX7_readsOne 109 = .ok (.iadd, 1) := by decide +kernel
theorem dX7_readsOne_110 : decode cX7_readsOne 110 = .ok (.iaload, 1) := by decide +kernel
theorem dX7_readsOne_111 : decode cX7_readsOne 111 = .ok (.istore 7, 2) := by decide +kernel
theorem dX7_readsOne_113 : decode cX7_readsOne 113 = .ok (.iload 6, 2) := by decide +kernel
theorem dX7_readsOne_115 : decode cX7_readsOne 115 = .ok (.iconst 1, 1) := by decide +kernel
theorem dX7_readsOne_116 : decode cX7_readsOne 116 = .ok (.if_icmp .le 85, 3) := by decide +kernel
theorem dX7_readsOne_119 : decode cX7_readsOne 119 = .ok (.iload 6, 2) := by decide +kernel
theorem dX7_readsOne_121 : decode cX7_readsOne 121 = .ok (.iload 7, 2) := by decide +kernel
theorem dX7_readsOne_123 : decode cX7_readsOne 123 = .ok (.iload_n 1, 1) := by decide +kernel
theorem dX7_readsOne_124 : decode cX7_readsOne 124 = .ok (.iconst 2, 1) := by decide +kernel
theorem dX7_readsOne_125 : decode cX7_readsOne 125 = .ok (.irem, 1) := by decide +kernel
theorem dX7_readsOne_126 : decode cX7_readsOne 126 = .ok (.invokestatic 182, 3) := by decide +kernel
theorem dX7_readsOne_129 : decode cX7_readsOne 129 = .ok (.istore 8, 2) := by decide +kernel
theorem dX7_readsOne_131 : decode cX7_readsOne 131 = .ok (.aload_n 0, 1) := by decide +kernel
theorem dX7_readsOne_132 : decode cX7_readsOne 132 = .ok (.getfield 84, 3) := by decide +kernel
theorem dX7_readsOne_135 : decode cX7_readsOne 135 = .ok (.iload 8, 2) := by decide +kernel
theorem dX7_readsOne_137 : decode cX7_readsOne 137 = .ok (.iaload, 1) := by decide +kernel
theorem dX7_readsOne_138 : decode cX7_readsOne 138 = .ok (.ifCond .ne 10, 3) := by decide +kernel
theorem dX7_readsOne_141 : decode cX7_readsOne 141 = .ok (.aload_n 0, 1) := by decide +kernel
theorem dX7_readsOne_142 : decode cX7_readsOne 142 = .ok (.iload 8, 2) := by decide +kernel
theorem dX7_readsOne_144 : decode cX7_readsOne 144 = .ok (.invokevirtual 186, 3) := by decide +kernel
theorem dX7_readsOne_147 : decode cX7_readsOne 147 = .ok (.return_, 1) := by decide +kernel
theorem dX7_readsOne_148 : decode cX7_readsOne 148 = .ok (.aload_n 0, 1) := by decide +kernel
theorem dX7_readsOne_149 : decode cX7_readsOne 149 = .ok (.getfield 84, 3) := by decide +kernel
theorem dX7_readsOne_152 : decode cX7_readsOne 152 = .ok (.iload 8, 2) := by decide +kernel
theorem dX7_readsOne_154 : decode cX7_readsOne 154 = .ok (.iaload, 1) := by decide +kernel
theorem dX7_readsOne_155 : decode cX7_readsOne 155 = .ok (.iconst 1, 1) := by decide +kernel
theorem dX7_readsOne_156 : decode cX7_readsOne 156 = .ok (.if_icmp .ne 8, 3) := by decide +kernel
theorem dX7_readsOne_159 : decode cX7_readsOne 159 = .ok (.bipush (-4), 2) := by decide +kernel
theorem dX7_readsOne_161 : decode cX7_readsOne 161 = .ok (.goto 10, 3) := by decide +kernel
theorem dX7_readsOne_164 : decode cX7_readsOne 164 = .ok (.aload_n 0, 1) := by decide +kernel
theorem dX7_readsOne_165 : decode cX7_readsOne 165 = .ok (.getfield 87, 3) := by decide +kernel
theorem dX7_readsOne_168 : decode cX7_readsOne 168 = .ok (.iload 8, 2) := by decide +kernel
theorem dX7_readsOne_170 : decode cX7_readsOne 170 = .ok (.iaload, 1) := by decide +kernel
theorem dX7_readsOne_171 : decode cX7_readsOne 171 = .ok (.istore 9, 2) := by decide +kernel
theorem dX7_readsOne_173 : decode cX7_readsOne 173 = .ok (.iload 9, 2) := by decide +kernel
theorem dX7_readsOne_175 : decode cX7_readsOne 175 = .ok (.ifCond .ge 12, 3) := by decide +kernel
theorem dX7_readsOne_178 : decode cX7_readsOne 178 = .ok (.aload_n 0, 1) := by decide +kernel
theorem dX7_readsOne_179 : decode cX7_readsOne 179 = .ok (.iload_n 1, 1) := by decide +kernel
theorem dX7_readsOne_180 : decode cX7_readsOne 180 = .ok (.iload 9, 2) := by decide +kernel
theorem dX7_readsOne_182 : decode cX7_readsOne 182 = .ok (.iconst 4, 1) := by decide +kernel
theorem dX7_readsOne_183 : decode cX7_readsOne 183 = .ok (.invokevirtual 175, 3) := by decide +kernel
theorem dX7_readsOne_186 : decode cX7_readsOne 186 = .ok (.return_, 1) := by decide +kernel
theorem dX7_readsOne_187 : decode cX7_readsOne 187 = .ok (.aload_n 0, 1) := by decide +kernel
theorem dX7_readsOne_188 : decode cX7_readsOne 188 = .ok (.iload_n 1, 1) := by decide +kernel
theorem dX7_readsOne_189 : decode cX7_readsOne 189 = .ok (.iload 4, 2) := by decide +kernel
theorem dX7_readsOne_191 : decode cX7_readsOne 191 = .ok (.iconst 0, 1) := by decide +kernel
theorem dX7_readsOne_192 : decode cX7_readsOne 192 = .ok (.iload 9, 2) := by decide +kernel
theorem dX7_readsOne_194 : decode cX7_readsOne 194 = .ok (.i2l, 1) := by decide +kernel
theorem dX7_readsOne_195 : decode cX7_readsOne 195 = .ok (.invokevirtual 193, 3) := by decide +kernel
theorem dX7_readsOne_198 : decode cX7_readsOne 198 = .ok (.goto 58, 3) := by decide +kernel
theorem dX7_readsOne_201 : decode cX7_readsOne 201 = .ok (.iload 6, 2) := by decide +kernel
theorem dX7_readsOne_203 : decode cX7_readsOne 203 = .ok (.ifCond .ne 23, 3) := by decide +kernel
theorem dX7_readsOne_206 : decode cX7_readsOne 206 = .ok (.aload_n 0, 1) := by decide +kernel
theorem dX7_readsOne_207 : decode cX7_readsOne 207 = .ok (.getfield 7, 3) := by decide +kernel
theorem dX7_readsOne_210 : decode cX7_readsOne 210 = .ok (.iload 7, 2) := by decide +kernel
theorem dX7_readsOne_212 : decode cX7_readsOne 212 = .ok (.iaload, 1) := by decide +kernel
theorem dX7_readsOne_213 : decode cX7_readsOne 213 = .ok (.iconst (-1), 1) := by decide +kernel
theorem dX7_readsOne_214 : decode cX7_readsOne 214 = .ok (.if_icmp .ne 12, 3) := by decide +kernel
theorem dX7_readsOne_217 : decode cX7_readsOne 217 = .ok (.aload_n 0, 1) := by decide +kernel
theorem dX7_readsOne_218 : decode cX7_readsOne 218 = .ok (.iload_n 1, 1) := by decide +kernel
theorem dX7_readsOne_219 : decode cX7_readsOne 219 = .ok (.bipush (-3), 2) := by decide +kernel
theorem dX7_readsOne_221 : decode cX7_readsOne 221 = .ok (.iconst 4, 1) := by decide +kernel
theorem dX7_readsOne_222 : decode cX7_readsOne 222 = .ok (.invokevirtual 175, 3) := by decide +kernel
theorem dX7_readsOne_225 : decode cX7_readsOne 225 = .ok (.return_, 1) := by decide +kernel
theorem dX7_readsOne_226 : decode cX7_readsOne 226 = .ok (.aload_n 0, 1) := by decide +kernel
theorem dX7_readsOne_227 : decode cX7_readsOne 227 = .ok (.iload_n 1, 1) := by decide +kernel
theorem dX7_readsOne_228 : decode cX7_readsOne 228 = .ok (.iload 4, 2) := by decide +kernel
theorem dX7_readsOne_230 : decode cX7_readsOne 230 = .ok (.iconst 0, 1) := by decide +kernel
theorem dX7_readsOne_231 : decode cX7_readsOne 231 = .ok (.iload 6, 2) := by decide +kernel
theorem dX7_readsOne_233 : decode cX7_readsOne 233 = .ok (.ifCond .ne 14, 3) := by decide +kernel
theorem dX7_readsOne_236 : decode cX7_readsOne 236 = .ok (.aload_n 0, 1) := by decide +kernel
theorem dX7_readsOne_237 : decode cX7_readsOne 237 = .ok (.getfield 7, 3) := by decide +kernel
theorem dX7_readsOne_240 : decode cX7_readsOne 240 = .ok (.iload 7, 2) := by decide +kernel
theorem dX7_readsOne_242 : decode cX7_readsOne 242 = .ok (.iaload, 1) := by decide +kernel
theorem dX7_readsOne_243 : decode cX7_readsOne 243 = .ok (.i2l, 1) := by decide +kernel
theorem dX7_readsOne_244 : decode cX7_readsOne 244 = .ok (.goto 9, 3) := by decide +kernel
theorem dX7_readsOne_247 : decode cX7_readsOne 247 = .ok (.aload_n 0, 1) := by decide +kernel
theorem dX7_readsOne_248 : decode cX7_readsOne 248 = .ok (.iload 7, 2) := by decide +kernel
theorem dX7_readsOne_250 : decode cX7_readsOne 250 = .ok (.invokevirtual 179, 3) := by decide +kernel
theorem dX7_readsOne_253 : decode cX7_readsOne 253 = .ok (.invokevirtual 193, 3) := by decide +kernel
theorem dX7_readsOne_256 : decode cX7_readsOne 256 = .ok (.aload_n 0, 1) := by decide +kernel
theorem dX7_readsOne_257 : decode cX7_readsOne 257 = .ok (.getfield 105, 3) := by decide +kernel
theorem dX7_readsOne_260 : decode cX7_readsOne 260 = .ok (.iload_n 1, 1) := by decide +kernel
theorem dX7_readsOne_261 : decode cX7_readsOne 261 = .ok (.dup2, 1) := by decide +kernel
theorem dX7_readsOne_262 : decode cX7_readsOne 262 = .ok (.iaload, 1) := by decide +kernel
theorem dX7_readsOne_263 : decode cX7_readsOne 263 = .ok (.iconst 1, 1) := by decide +kernel
theorem dX7_readsOne_264 : decode cX7_readsOne 264 = .ok (.iadd, 1) := by decide +kernel
theorem dX7_readsOne_265 : decode cX7_readsOne 265 = .ok (.iastore, 1) := by decide +kernel
theorem dX7_readsOne_266 : decode cX7_readsOne 266 = .ok (.return_, 1) := by decide +kernel
set_option maxRecDepth 20000 in
theorem ggX7_valueRead_X7_sumOf : GoodIn wsX7_valueRead wsX7_sumOf := goodIn_r _ [9, 10, 11, 12, 13, 14, 15, 16, 17, 18, 19, 20, 21, 22, 23, 24, 25, 26, 27, 28, 29, 30, 31, 32, 33, 34, 35, 36, 37, 38, 39, 40, 41, 42, 43, 44, 45, 46, 47, 48, 49, 50, 51, 52, 53, 54, 55, 56, 57, 58] (by decide +kernel) (by decide +kernel)
set_option maxRecDepth 20000 in
theorem gX7_valueRead_X7_sumOf : GoodIn wsX7_valueRead (wsV RX7 197 RX7 yX7_sumOf wsX7_sumOf) := goodIn_app (goodIn_of _ (by decide +kernel)) ggX7_valueRead_X7_sumOf
theorem dX7_valueRead_0 : decode cX7_valueRead 0 = .ok (.iconst 4, 1) := by decide +kernel
theorem dX7_valueRead_1 : decode cX7_valueRead 1 = .ok (.iload_n 1, 1) := by decide +kernel
theorem dX7_valueRead_2 : decode cX7_valueRead 2 = .ok (.iconst 2, 1) := by decide +kernel
theorem dX7_valueRead_3 : decode cX7_valueRead 3 = .ok (.idiv, 1) := by decide +kernel
theorem dX7_valueRead_4 : decode cX7_valueRead 4 = .ok (.imul, 1) := by decide +kernel
theorem dX7_valueRead_5 : decode cX7_valueRead 5 = .ok (.aload_n 0, 1) := by decide +kernel
theorem dX7_valueRead_6 : decode cX7_valueRead 6 = .ok (.getfield 111, 3) := by decide +kernel
theorem dX7_valueRead_9 : decode cX7_valueRead 9 = .ok (.iconst 5, 1) := by decide +kernel
theorem dX7_valueRead_10 : decode cX7_valueRead 10 = .ok (.iload_n 1, 1) := by decide +kernel
theorem dX7_valueRead_11 : decode cX7_valueRead 11 = .ok (.imul, 1) := by decide +kernel
theorem dX7_valueRead_12 : decode cX7_valueRead 12 = .ok (.iload_n 2, 1) := by decide +kernel
theorem dX7_valueRead_13 : decode cX7_valueRead 13 = .ok (.iadd, 1) := by decide +kernel
theorem dX7_valueRead_14 : decode cX7_valueRead 14 = .ok (.iaload, 1) := by decide +kernel
theorem dX7_valueRead_15 : decode cX7_valueRead 15 = .ok (.iadd, 1) := by decide +kernel
theorem dX7_valueRead_16 : decode cX7_valueRead 16 = .ok (.istore_n 3, 1) := by decide +kernel
theorem dX7_valueRead_17 : decode cX7_valueRead 17 = .ok (.aload_n 0, 1) := by decide +kernel
theorem dX7_valueRead_18 : decode cX7_valueRead 18 = .ok (.getfield 28, 3) := by decide +kernel
theorem dX7_valueRead_21 : decode cX7_valueRead 21 = .ok (.iload_n 3, 1) := by decide +kernel
theorem dX7_valueRead_22 : decode cX7_valueRead 22 = .ok (.iaload, 1) := by decide +kernel
theorem dX7_valueRead_23 : decode cX7_valueRead 23 = .ok (.iconst 1, 1) := by decide +kernel
theorem dX7_valueRead_24 : decode cX7_valueRead 24 = .ok (.if_icmp .ne 16, 3) := by decide +kernel
theorem dX7_valueRead_27 : decode cX7_valueRead 27 = .ok (.aload_n 0, 1) := by decide +kernel
theorem dX7_valueRead_28 : decode cX7_valueRead 28 = .ok (.aload_n 0, 1) := by decide +kernel
theorem dX7_valueRead_29 : decode cX7_valueRead 29 = .ok (.getfield 31, 3) := by decide +kernel
theorem dX7_valueRead_32 : decode cX7_valueRead 32 = .ok (.iload_n 3, 1) := by decide +kernel
theorem dX7_valueRead_33 : decode cX7_valueRead 33 = .ok (.iaload, 1) := by decide +kernel
theorem dX7_valueRead_34 : decode cX7_valueRead 34 = .ok (.invokevirtual 197, 3) := by decide +kernel
theorem dX7_valueRead_37 : decode cX7_valueRead 37 = .ok (.goto 14, 3) := by decide +kernel
theorem dX7_valueRead_40 : decode cX7_valueRead 40 = .ok (.aload_n 0, 1) := by decide +kernel
theorem dX7_valueRead_41 : decode cX7_valueRead 41 = .ok (.getfield 117, 3) := by decide +kernel
theorem dX7_valueRead_44 : decode cX7_valueRead 44 = .ok (.iconst 5, 1) := by decide +kernel
theorem dX7_valueRead_45 : decode cX7_valueRead 45 = .ok (.iload_n 1, 1) := by decide +kernel
theorem dX7_valueRead_46 : decode cX7_valueRead 46 = .ok (.imul, 1) := by decide +kernel
theorem dX7_valueRead_47 : decode cX7_valueRead 47 = .ok (.iload_n 2, 1) := by decide +kernel
theorem dX7_valueRead_48 : decode cX7_valueRead 48 = .ok (.iadd, 1) := by decide +kernel
theorem dX7_valueRead_49 : decode cX7_valueRead 49 = .ok (.laload, 1) := by decide +kernel
theorem dX7_valueRead_50 : decode cX7_valueRead 50 = .ok (.l2i, 1) := by decide +kernel
theorem dX7_valueRead_51 : decode cX7_valueRead 51 = .ok (.ireturn, 1) := by decide +kernel
theorem dX7_isSeen_0 : decode cX7_isSeen 0 = .ok (.iconst 0, 1) := by decide +kernel
theorem dX7_isSeen_1 : decode cX7_isSeen 1 = .ok (.istore_n 3, 1) := by decide +kernel
theorem dX7_isSeen_2 : decode cX7_isSeen 2 = .ok (.iconst 0, 1) := by decide +kernel
theorem dX7_isSeen_3 : decode cX7_isSeen 3 = .ok (.istore 4, 2) := by decide +kernel
theorem dX7_isSeen_5 : decode cX7_isSeen 5 = .ok (.iload 4, 2) := by decide +kernel
theorem dX7_isSeen_7 : decode cX7_isSeen 7 = .ok (.aload_n 0, 1) := by decide +kernel
theorem dX7_isSeen_8 : decode cX7_isSeen 8 = .ok (.getfield 25, 3) := by decide +kernel
theorem dX7_isSeen_11 : decode cX7_isSeen 11 = .ok (.iload_n 1, 1) := by decide +kernel
theorem dX7_isSeen_12 : decode cX7_isSeen 12 = .ok (.iaload, 1) := by decide +kernel
theorem dX7_isSeen_13 : decode cX7_isSeen 13 = .ok (.if_icmp .ge 70, 3) := by decide +kernel
theorem dX7_isSeen_16 : decode cX7_isSeen 16 = .ok (.aload_n 0, 1) := by decide +kernel
theorem dX7_isSeen_17 : decode cX7_isSeen 17 = .ok (.getfield 28, 3) := by decide +kernel
theorem dX7_isSeen_20 : decode cX7_isSeen 20 = .ok (.iconst 4, 1) := by decide +kernel
theorem dX7_isSeen_21 : decode cX7_isSeen 21 = .ok (.iload_n 1, 1) := by decide +kernel
theorem dX7_isSeen_22 : decode cX7_isSeen 22 = .ok (.imul, 1) := by decide +kernel
theorem dX7_isSeen_23 : decode cX7_isSeen 23 = .ok (.iload 4, 2) := by decide +kernel
theorem dX7_isSeen_25 : decode cX7_isSeen 25 = .ok (.iadd, 1) := by decide +kernel
theorem dX7_isSeen_26 : decode cX7_isSeen 26 = .ok (.iaload, 1) := by decide +kernel
theorem dX7_isSeen_27 : decode cX7_isSeen 27 = .ok (.istore 5, 2) := by decide +kernel
theorem dX7_isSeen_29 : decode cX7_isSeen 29 = .ok (.aload_n 0, 1) := by decide +kernel
theorem dX7_isSeen_30 : decode cX7_isSeen 30 = .ok (.getfield 31, 3) := by decide +kernel
theorem dX7_isSeen_33 : decode cX7_isSeen 33 = .ok (.iconst 4, 1) := by decide +kernel
theorem dX7_isSeen_34 : decode cX7_isSeen 34 = .ok (.iload_n 1, 1) := by decide +kernel
theorem dX7_isSeen_35 : decode cX7_isSeen 35 = .ok (.imul, 1) := by decide +kernel
theorem dX7_isSeen_36 : decode cX7_isSeen 36 = .ok (.iload 4, 2) := by decide +kernel
theorem dX7_isSeen_38 : decode cX7_isSeen 38 = .ok (.iadd, 1) := by decide +kernel
theorem dX7_isSeen_39 : decode cX7_isSeen 39 = .ok (.iaload, 1) := by decide +kernel
theorem dX7_isSeen_40 : decode cX7_isSeen 40 = .ok (.istore 6, 2) := by decide +kernel
theorem dX7_isSeen_42 : decode cX7_isSeen 42 = .ok (.iload_n 3, 1) := by decide +kernel
theorem dX7_isSeen_43 : decode cX7_isSeen 43 = .ok (.ifCond .ne 28, 3) := by decide +kernel
theorem dX7_isSeen_46 : decode cX7_isSeen 46 = .ok (.iload 5, 2) := by decide +kernel
theorem dX7_isSeen_48 : decode cX7_isSeen 48 = .ok (.ifCond .ne 9, 3) := by decide +kernel
theorem dX7_isSeen_51 : decode cX7_isSeen 51 = .ok (.iload 6, 2) := by decide +kernel
theorem dX7_isSeen_53 : decode cX7_isSeen 53 = .ok (.iload_n 2, 1) := by decide +kernel
theorem dX7_isSeen_54 : decode cX7_isSeen 54 = .ok (.if_icmp .eq 17, 3) := by decide +kernel
theorem dX7_isSeen_57 : decode cX7_isSeen 57 = .ok (.iload 5, 2) := by decide +kernel
theorem dX7_isSeen_59 : decode cX7_isSeen 59 = .ok (.iconst 1, 1) := by decide +kernel
theorem dX7_isSeen_60 : decode cX7_isSeen 60 = .ok (.if_icmp .ne 15, 3) := by decide +kernel
theorem dX7_isSeen_63 : decode cX7_isSeen 63 = .ok (.iload 6, 2) := by decide +kernel
theorem dX7_isSeen_65 : decode cX7_isSeen 65 = .ok (.iload_n 2, 1) := by decide +kernel
theorem dX7_isSeen_66 : decode cX7_isSeen 66 = .ok (.iconst 5, 1) := by decide +kernel
theorem dX7_isSeen_67 : decode cX7_isSeen 67 = .ok (.idiv, 1) := by decide +kernel
theorem dX7_isSeen_68 : decode cX7_isSeen 68 = .ok (.if_icmp .ne 7, 3) := by decide +kernel
theorem dX7_isSeen_71 : decode cX7_isSeen 71 = .ok (.iconst 1, 1) := by decide +kernel
theorem dX7_isSeen_72 : decode cX7_isSeen 72 = .ok (.goto 4, 3) := by decide +kernel
theorem dX7_isSeen_75 : decode cX7_isSeen 75 = .ok (.iconst 0, 1) := by decide +kernel
theorem dX7_isSeen_76 : decode cX7_isSeen 76 = .ok (.istore_n 3, 1) := by decide +kernel
theorem dX7_isSeen_77 : decode cX7_isSeen 77 = .ok (.iinc 4 1, 3) := by decide +kernel
theorem dX7_isSeen_80 : decode cX7_isSeen 80 = .ok (.goto (-75), 3) := by decide +kernel
theorem dX7_isSeen_83 : decode cX7_isSeen 83 = .ok (.iload_n 3, 1) := by decide +kernel
theorem dX7_isSeen_84 : decode cX7_isSeen 84 = .ok (.ireturn, 1) := by decide +kernel
set_option maxRecDepth 20000 in
theorem ggX7_endsReading_X7_valueRead : GoodIn wsX7_endsReading wsX7_valueRead := goodIn_r _ [16, 17, 18, 19, 20, 21, 22, 23, 15, 24, 4, 99, 100, 101, 102, 103, 104, 105, 106, 107, 108, 109, 110, 111, 112, 113, 114, 115, 116, 117, 118, 119, 120, 121, 122, 123, 124, 125, 126, 127, 128, 129, 130, 131, 132, 133, 134, 135, 136, 137, 138, 139, 140, 141, 142, 143, 144, 145, 146] (by decide +kernel) (by decide +kernel)
set_option maxRecDepth 20000 in
theorem gX7_endsReading_X7_valueRead : GoodIn wsX7_endsReading (wsV RX7 201 RX7 yX7_valueRead wsX7_valueRead) := goodIn_app (goodIn_of _ (by decide +kernel)) ggX7_endsReading_X7_valueRead
set_option maxRecDepth 20000 in
theorem ggX7_endsReading_X7_notes : GoodIn wsX7_endsReading wsX7_notes := goodIn_r _ [28, 17, 2, 29, 20, 99, 100, 101, 102, 103, 104, 105, 106, 107, 108, 109, 110, 111, 112, 113, 114, 115, 116, 117, 118, 119, 120, 121, 122, 123, 124, 125, 126, 127, 128, 129, 130, 131, 132, 133, 134, 135, 136, 137, 138, 139, 140, 141, 142, 143, 144, 145, 146] (by decide +kernel) (by decide +kernel)
set_option maxRecDepth 20000 in
theorem gX7_endsReading_X7_notes : GoodIn wsX7_endsReading (wsV RX7 193 RX7 yX7_notes wsX7_notes) := goodIn_app (goodIn_of _ (by decide +kernel)) ggX7_endsReading_X7_notes
set_option maxRecDepth 20000 in
theorem ggX7_endsReading_X7_isSeen : GoodIn wsX7_endsReading wsX7_isSeen := goodIn_r _ [33, 34, 18, 19, 99, 100, 101, 102, 103, 104, 105, 106, 107, 108, 109, 110, 111, 112, 113, 114, 115, 116, 117, 118, 119, 120, 121, 122, 123, 124, 125, 126, 127, 128, 129, 130, 131, 132, 133, 134, 135, 136, 137, 138, 139, 140, 141, 142, 143, 144, 145, 146] (by decide +kernel) (by decide +kernel)
set_option maxRecDepth 20000 in
theorem gX7_endsReading_X7_isSeen : GoodIn wsX7_endsReading (wsV RX7 205 RX7 yX7_isSeen wsX7_isSeen) := goodIn_app (goodIn_of _ (by decide +kernel)) ggX7_endsReading_X7_isSeen
set_option maxRecDepth 20000 in
theorem ggX7_endsReading_X7_finishes : GoodIn wsX7_endsReading wsX7_finishes := goodIn_r _ [38, 39, 40, 41, 42, 5, 43, 99, 100, 101, 102, 103, 104, 105, 106, 107, 108, 109, 110, 111, 112, 113, 114, 115, 116, 117, 118, 119, 120, 121, 122, 123, 124, 125, 126, 127, 128, 129, 130, 131, 132, 133, 134, 135, 136, 137, 138, 139, 140, 141, 142, 143, 144, 145, 146] (by decide +kernel) (by decide +kernel)
set_option maxRecDepth 20000 in
theorem gX7_endsReading_X7_finishes : GoodIn wsX7_endsReading (wsV RX7 175 RX7 yX7_finishes wsX7_finishes) := goodIn_app (goodIn_of _ (by decide +kernel)) ggX7_endsReading_X7_finishes
set_option maxRecDepth 20000 in
theorem ggX7_endsReading_X7_laysKey : GoodIn wsX7_endsReading wsX7_laysKey := goodIn_r _ [47, 48, 49, 2, 20, 50, 51, 52, 53, 15, 54, 1, 55, 3, 56, 7, 57, 34, 18, 19, 99, 100, 101, 102, 103, 104, 105, 106, 107, 108, 109, 110, 111, 112, 113, 114, 115, 116, 117, 118, 119, 120, 121, 122, 123, 124, 125, 126, 127, 128, 129, 130, 131, 132, 133, 134, 135, 136, 137, 138, 139, 140, 141, 142, 143, 144, 145, 146] (by decide +kernel) (by decide +kernel)
set_option maxRecDepth 20000 in
theorem gX7_endsReading_X7_laysKey : GoodIn wsX7_endsReading (wsV RX7 212 RX7 yX7_laysKey wsX7_laysKey) := goodIn_app (goodIn_of _ (by decide +kernel)) ggX7_endsReading_X7_laysKey
set_option maxRecDepth 20000 in
theorem ggX7_endsReading_X7_entryOf : GoodIn wsX7_endsReading wsX7_entryOf := goodIn_r _ [61, 62, 63, 48, 99, 100, 101, 102, 103, 104, 105, 106, 107, 108, 109, 110, 111, 112, 113, 114, 115, 116, 117, 118, 119, 120, 121, 122, 123, 124, 125, 126, 127, 128, 129, 130, 131, 132, 133, 134, 135, 136, 137, 138, 139, 140, 141, 142, 143, 144, 145, 146] (by decide +kernel) (by decide +kernel)
set_option maxRecDepth 20000 in
theorem gX7_endsReading_X7_entryOf : GoodIn wsX7_endsReading (wsV RX7 215 RX7 yX7_entryOf wsX7_entryOf) := goodIn_app (goodIn_of _ (by decide +kernel)) ggX7_endsReading_X7_entryOf
set_option maxRecDepth 20000 in
theorem ggX7_endsReading_X7_drops : GoodIn wsX7_endsReading wsX7_drops := goodIn_r _ [67, 62, 63, 10, 11, 99, 100, 101, 102, 103, 104, 105, 106, 107, 108, 109, 110, 111, 112, 113, 114, 115, 116, 117, 118, 119, 120, 121, 122, 123, 124, 125, 126, 127, 128, 129, 130, 131, 132, 133, 134, 135, 136, 137, 138, 139, 140, 141, 142, 143, 144, 145, 146] (by decide +kernel) (by decide +kernel)
set_option maxRecDepth 20000 in
theorem gX7_endsReading_X7_drops : GoodIn wsX7_endsReading (wsV RX7 219 RX7 yX7_drops wsX7_drops) := goodIn_app (goodIn_of _ (by decide +kernel)) ggX7_endsReading_X7_drops
set_option maxRecDepth 20000 in
theorem ggX7_endsReading_X7_keeps : GoodIn wsX7_endsReading wsX7_keeps := goodIn_r _ [71, 43, 72, 73, 74, 75, 76, 2, 77, 17, 78, 29, 79, 20, 80, 81, 51, 52, 53, 15, 54, 1, 55, 3, 56, 7, 57, 34, 18, 19, 99, 100, 101, 102, 103, 104, 105, 106, 107, 108, 109, 110, 111, 112, 113, 114, 115, 116, 117, 118, 119, 120, 121, 122, 123, 124, 125, 126, 127, 128, 129, 130, 131, 132, 133, 134, 135, 136, 137, 138, 139, 140, 141, 142, 143, 144, 145, 146] (by decide +kernel) (by decide +kernel)
set_option maxRecDepth 20000 in
theorem gX7_endsReading_X7_keeps : GoodIn wsX7_endsReading (wsV RX7 222 RX7 yX7_keeps wsX7_keeps) := goodIn_app (goodIn_of _ (by decide +kernel)) ggX7_endsReading_X7_keeps
set_option maxRecDepth 20000 in
theorem ggX7_endsReading_X7_runs : GoodIn wsX7_endsReading wsX7_runs := goodIn_r _ [85, 9, 86, 87, 88, 62, 63, 48, 10, 11, 89, 90, 91, 15, 92, 93, 94, 35, 36, 37, 38, 39, 40, 41, 42, 5, 43, 95, 96, 97, 98, 81, 72, 64, 65, 66, 67, 68, 69, 70, 71, 73, 74, 75, 76, 2, 77, 17, 78, 29, 79, 20, 80, 51, 52, 53, 54, 1, 55, 3, 56, 7, 57, 34, 18, 19, 99, 100, 101, 102, 103, 104, 105, 106, 107, 108, 109, 110, 111, 112, 113, 114, 115, 116, 117, 118, 119, 120, 121, 122, 123, 124, 125, 126, 127, 128, 129, 130, 131, 132, 133, 134, 135, 136, 137, 138, 139, 140, 141, 142, 143, 144, 145, 146] (by decide +kernel) (by decide +kernel)
set_option maxRecDepth 20000 in
theorem gX7_endsReading_X7_runs : GoodIn wsX7_endsReading (wsV RX7 225 RX7 yX7_runs wsX7_runs) := goodIn_app (goodIn_of _ (by decide +kernel)) ggX7_endsReading_X7_runs
theorem dX7_endsReading_0 : decode cX7_endsReading 0 = .ok (.iload_n 1, 1) := by decide +kernel
theorem dX7_endsReading_1 : decode cX7_endsReading 1 = .ok (.iconst 2, 1) := by decide +kernel
theorem dX7_endsReading_2 : decode cX7_endsReading 2 = .ok (.idiv, 1) := by decide +kernel
theorem dX7_endsReading_3 : decode cX7_endsReading 3 = .ok (.istore_n 2, 1) := by decide +kernel
theorem dX7_endsReading_4 : decode cX7_endsReading 4 = .ok (.aload_n 0, 1) := by decide +kernel
theorem dX7_endsReading_5 : decode cX7_endsReading 5 = .ok (.getfield 13, 3) := by decide +kernel
theorem dX7_endsReading_8 : decode cX7_endsReading 8 = .ok (.iload_n 2, 1) := by decide +kernel
theorem dX7_endsReading_9 : decode cX7_endsReading 9 = .ok (.iaload, 1) := by decide +kernel
theorem dX7_endsReading_10 : decode cX7_endsReading 10 = .ok (.istore_n 3, 1) := by decide +kernel
theorem dX7_endsReading_11 : decode cX7_endsReading 11 = .ok (.iconst 0, 1) := by decide +kernel
theorem dX7_endsReading_12 : decode cX7_endsReading 12 = .ok (.istore 4, 2) := by decide +kernel
theorem dX7_endsReading_14 : decode cX7_endsReading 14 = .ok (.iconst 0, 1) := by decide +kernel
theorem dX7_endsReading_15 : decode cX7_endsReading 15 = .ok (.istore 5, 2) := by decide +kernel
theorem dX7_endsReading_17 : decode cX7_endsReading 17 = .ok (.iload 5, 2) := by decide +kernel
theorem dX7_endsReading_19 : decode cX7_endsReading 19 = .ok (.aload_n 0, 1) := by decide +kernel
theorem dX7_endsReading_20 : decode cX7_endsReading 20 = .ok (.getfield 108, 3) := by decide +kernel
theorem dX7_endsReading_23 : decode cX7_endsReading 23 = .ok (.iload_n 1, 1) := by decide +kernel
theorem dX7_endsReading_24 : decode cX7_endsReading 24 = .ok (.iaload, 1) := by decide +kernel
theorem dX7_endsReading_25 : decode cX7_endsReading 25 = .ok (.if_icmp .ge 21, 3) := by decide +kernel
theorem dX7_endsReading_28 : decode cX7_endsReading 28 = .ok (.iload 4, 2) := by decide +kernel
theorem dX7_endsReading_30 : decode cX7_endsReading 30 = .ok (.aload_n 0, 1) := by decide +kernel
theorem dX7_endsReading_31 : decode cX7_endsReading 31 = .ok (.iload_n 1, 1) := by decide +kernel
theorem dX7_endsReading_32 : decode cX7_endsReading 32 = .ok (.iload 5, 2) := by decide +kernel
theorem dX7_endsReading_34 : decode cX7_endsReading 34 = .ok (.invokevirtual 201, 3) := by decide +kernel
theorem dX7_endsReading_37 : decode cX7_endsReading 37 = .ok (.iadd, 1) := by decide +kernel
theorem dX7_endsReading_38 : decode cX7_endsReading 38 = .ok (.istore 4, 2) := by decide +kernel
theorem dX7_endsReading_40 : decode cX7_endsReading 40 = .ok (.iinc 5 1, 3) := by decide +kernel
theorem dX7_endsReading_43 : decode cX7_endsReading 43 = .ok (.goto (-26), 3) := by decide +kernel
theorem dX7_endsReading_46 : decode cX7_endsReading 46 = .ok (.iload_n 3, 1) := by decide +kernel
theorem dX7_endsReading_47 : decode cX7_endsReading 47 = .ok (.iconst 3, 1) := by decide +kernel
theorem dX7_endsReading_48 : decode cX7_endsReading 48 = .ok (.if_icmp .ne 11, 3) := by decide +kernel
theorem dX7_endsReading_51 : decode cX7_endsReading 51 = .ok (.iload 4, 2) := by decide +kernel
theorem dX7_endsReading_53 : decode cX7_endsReading 53 = .ok (.bipush 20, 2) := by decide +kernel
theorem dX7_endsReading_55 : decode cX7_endsReading 55 = .ok (.irem, 1) := by decide +kernel
theorem dX7_endsReading_56 : decode cX7_endsReading 56 = .ok (.goto 12, 3) := by decide +kernel
theorem dX7_endsReading_59 : decode cX7_endsReading 59 = .ok (.aload_n 0, 1) := by decide +kernel
theorem dX7_endsReading_60 : decode cX7_endsReading 60 = .ok (.getfield 16, 3) := by decide +kernel
theorem dX7_endsReading_63 : decode cX7_endsReading 63 = .ok (.iload_n 2, 1) := by decide +kernel
theorem dX7_endsReading_64 : decode cX7_endsReading 64 = .ok (.iaload, 1) := by decide +kernel
theorem dX7_endsReading_65 : decode cX7_endsReading 65 = .ok (.bipush 20, 2) := by decide +kernel
theorem dX7_endsReading_67 : decode cX7_endsReading 67 = .ok (.irem, 1) := by decide +kernel
theorem dX7_endsReading_68 : decode cX7_endsReading 68 = .ok (.istore 5, 2) := by decide +kernel
theorem dX7_endsReading_70 : decode cX7_endsReading 70 = .ok (.aload_n 0, 1) := by decide +kernel
theorem dX7_endsReading_71 : decode cX7_endsReading 71 = .ok (.getfield 7, 3) := by decide +kernel
theorem dX7_endsReading_74 : decode cX7_endsReading 74 = .ok (.iload 5, 2) := by decide +kernel
theorem dX7_endsReading_76 : decode cX7_endsReading 76 = .ok (.iaload, 1) := by decide +kernel
theorem dX7_endsReading_77 : decode cX7_endsReading 77 = .ok (.iconst (-1), 1) := by decide +kernel
theorem dX7_endsReading_78 : decode cX7_endsReading 78 = .ok (.if_icmp .ne 7, 3) := by decide +kernel
theorem dX7_endsReading_81 : decode cX7_endsReading 81 = .ok (.iconst 0, 1) := by decide +kernel
theorem dX7_endsReading_82 : decode cX7_endsReading 82 = .ok (.goto 10, 3) := by decide +kernel
theorem dX7_endsReading_85 : decode cX7_endsReading 85 = .ok (.aload_n 0, 1) := by decide +kernel
theorem dX7_endsReading_86 : decode cX7_endsReading 86 = .ok (.getfield 7, 3) := by decide +kernel
theorem dX7_endsReading_89 : decode cX7_endsReading 89 = .ok (.iload 5, 2) := by decide +kernel
theorem dX7_endsReading_91 : decode cX7_endsReading 91 = .ok (.iaload, 1) := by decide +kernel
theorem dX7_endsReading_92 : decode cX7_endsReading 92 = .ok (.istore 6, 2) := by decide +kernel
theorem dX7_endsReading_94 : decode cX7_endsReading 94 = .ok (.iload_n 3, 1) := by decide +kernel
theorem dX7_endsReading_95 : decode cX7_endsReading 95 = .ok (.iconst 3, 1) := by decide +kernel
theorem dX7_endsReading_96 : decode cX7_endsReading 96 = .ok (.if_icmp .ne 26, 3) := by decide +kernel
theorem dX7_endsReading_99 : decode cX7_endsReading 99 = .ok (.aload_n 0, 1) := by decide +kernel
theorem dX7_endsReading_100 : decode cX7_endsReading 100 = .ok (.iload_n 1, 1) := by decide +kernel
theorem dX7_endsReading_101 : decode cX7_endsReading 101 = .ok (.iconst 4, 1) := by decide +kernel
theorem dX7_endsReading_102 : decode cX7_endsReading 102 = .ok (.iload 5, 2) := by decide +kernel
theorem dX7_endsReading_104 : decode cX7_endsReading 104 = .ok (.aload_n 0, 1) := by decide +kernel
theorem dX7_endsReading_105 : decode cX7_endsReading 105 = .ok (.getfield 7, 3) := by decide +kernel
theorem dX7_endsReading_108 : decode cX7_endsReading 108 = .ok (.iload 5, 2) := by decide +kernel
theorem dX7_endsReading_110 : decode cX7_endsReading 110 = .ok (.iaload, 1) := by decide +kernel
theorem dX7_endsReading_111 : decode cX7_endsReading 111 = .ok (.i2l, 1) := by decide +kernel
theorem dX7_endsReading_112 : decode cX7_endsReading 112 = .ok (.invokevirtual 193, 3) := by decide +kernel
theorem dX7_endsReading_115 : decode cX7_endsReading 115 = .ok (.iload 4, 2) := by decide +kernel
theorem dX7_endsReading_117 : decode cX7_endsReading 117 = .ok (.iload 6, 2) := by decide +kernel
theorem dX7_endsReading_119 : decode cX7_endsReading 119 = .ok (.iadd, 1) := by decide +kernel
theorem dX7_endsReading_120 : decode cX7_endsReading 120 = .ok (.istore 4, 2) := by decide +kernel
theorem dX7_endsReading_122 : decode cX7_endsReading 122 = .ok (.iload_n 3, 1) := by decide +kernel
theorem dX7_endsReading_123 : decode cX7_endsReading 123 = .ok (.iconst 4, 1) := by decide +kernel
theorem dX7_endsReading_124 : decode cX7_endsReading 124 = .ok (.if_icmp .ne 23, 3) := by decide +kernel
theorem dX7_endsReading_127 : decode cX7_endsReading 127 = .ok (.aload_n 0, 1) := by decide +kernel
theorem dX7_endsReading_128 : decode cX7_endsReading 128 = .ok (.iload_n 2, 1) := by decide +kernel
theorem dX7_endsReading_129 : decode cX7_endsReading 129 = .ok (.iload 5, 2) := by decide +kernel
theorem dX7_endsReading_131 : decode cX7_endsReading 131 = .ok (.invokevirtual 205, 3) := by decide +kernel
theorem dX7_endsReading_134 : decode cX7_endsReading 134 = .ok (.ifCond .eq 13, 3) := by decide +kernel
theorem dX7_endsReading_137 : decode cX7_endsReading 137 = .ok (.iload 4, 2) := by decide +kernel
theorem dX7_endsReading_139 : decode cX7_endsReading 139 = .ok (.iload 6, 2) := by decide +kernel
theorem dX7_endsReading_141 : decode cX7_endsReading 141 = .ok (.iadd, 1) := by decide +kernel
theorem dX7_endsReading_142 : decode cX7_endsReading 142 = .ok (.istore 4, 2) := by decide +kernel
theorem dX7_endsReading_144 : decode cX7_endsReading 144 = .ok (.goto 27, 3) := by decide +kernel
theorem dX7_endsReading_147 : decode cX7_endsReading 147 = .ok (.iload_n 3, 1) := by decide +kernel
theorem dX7_endsReading_148 : decode cX7_endsReading 148 = .ok (.iconst 4, 1) := by decide +kernel
theorem dX7_endsReading_149 : decode cX7_endsReading 149 = .ok (.if_icmp .ne 22, 3) := by decide +kernel
theorem dX7_endsReading_152 : decode cX7_endsReading 152 = .ok (.aload_n 0, 1) := by decide +kernel
theorem dX7_endsReading_153 : decode cX7_endsReading 153 = .ok (.getfield 172, 3) := by decide +kernel
theorem dX7_endsReading_156 : decode cX7_endsReading 156 = .ok (.ifCond .ne 15, 3) := by decide +kernel
theorem dX7_endsReading_159 : decode cX7_endsReading 159 = .ok (.aload_n 0, 1) := by decide +kernel
theorem dX7_endsReading_160 : decode cX7_endsReading 160 = .ok (.dup, 1) := by decide +kernel
theorem dX7_endsReading_161 : decode cX7_endsReading 161 = .ok (.getfield 209, 3) := by decide +kernel
theorem dX7_endsReading_164 : decode cX7_endsReading 164 = .ok (.iconst 1, 1) := by decide +kernel
theorem dX7_endsReading_165 : decode cX7_endsReading 165 = .ok (.iload_n 2, 1) := by decide +kernel
theorem dX7_endsReading_166 : decode cX7_endsReading 166 = .ok (.ishl, 1) := by decide +kernel
theorem dX7_endsReading_167 : decode cX7_endsReading 167 = .ok (.ior, 1) := by decide +kernel
theorem dX7_endsReading_168 : decode cX7_endsReading 168 = .ok (.putfield 209, 3) := by decide +kernel
theorem dX7_endsReading_171 : decode cX7_endsReading 171 = .ok (.iload_n 3, 1) := by decide +kernel
theorem dX7_endsReading_172 : decode cX7_endsReading 172 = .ok (.iconst 1, 1) := by decide +kernel
theorem dX7_endsReading_173 : decode cX7_endsReading 173 = .ok (.if_icmp .ne 11, 3) := by decide +kernel
theorem dX7_endsReading_176 : decode cX7_endsReading 176 = .ok (.iload 4, 2) := by decide +kernel
theorem dX7_endsReading_178 : decode cX7_endsReading 178 = .ok (.bipush 10, 2) := by decide +kernel
theorem dX7_endsReading_180 : decode cX7_endsReading 180 = .ok (.idiv, 1) := by decide +kernel
theorem dX7_endsReading_181 : decode cX7_endsReading 181 = .ok (.goto 5, 3) := by decide +kernel
theorem dX7_endsReading_184 : decode cX7_endsReading 184 = .ok (.iload 4, 2) := by decide +kernel
theorem dX7_endsReading_186 : decode cX7_endsReading 186 = .ok (.aload_n 0, 1) := by decide +kernel
theorem dX7_endsReading_187 : decode cX7_endsReading 187 = .ok (.getfield 19, 3) := by decide +kernel
theorem dX7_endsReading_190 : decode cX7_endsReading 190 = .ok (.iload_n 2, 1) := by decide +kernel
theorem dX7_endsReading_191 : decode cX7_endsReading 191 = .ok (.iaload, 1) := by decide +kernel
theorem dX7_endsReading_192 : decode cX7_endsReading 192 = .ok (.iadd, 1) := by decide +kernel
theorem dX7_endsReading_193 : decode cX7_endsReading 193 = .ok (.sipush 1000, 3) := by decide +kernel
theorem dX7_endsReading_196 : decode cX7_endsReading 196 = .ok (.irem, 1) := by decide +kernel
theorem dX7_endsReading_197 : decode cX7_endsReading 197 = .ok (.istore 7, 2) := by decide +kernel
theorem dX7_endsReading_199 : decode cX7_endsReading 199 = .ok (.aload_n 0, 1) := by decide +kernel
theorem dX7_endsReading_200 : decode cX7_endsReading 200 = .ok (.getfield 172, 3) := by decide +kernel
theorem dX7_endsReading_203 : decode cX7_endsReading 203 = .ok (.ifCond .eq 12, 3) := by decide +kernel
theorem dX7_endsReading_206 : decode cX7_endsReading 206 = .ok (.aload_n 0, 1) := by decide +kernel
theorem dX7_endsReading_207 : decode cX7_endsReading 207 = .ok (.iload_n 1, 1) := by decide +kernel
theorem dX7_endsReading_208 : decode cX7_endsReading 208 = .ok (.iload 7, 2) := by decide +kernel
theorem dX7_endsReading_210 : decode cX7_endsReading 210 = .ok (.iconst 3, 1) := by decide +kernel
theorem dX7_endsReading_211 : decode cX7_endsReading 211 = .ok (.invokevirtual 175, 3) := by decide +kernel
theorem dX7_endsReading_214 : decode cX7_endsReading 214 = .ok (.return_, 1) := by decide +kernel
theorem dX7_endsReading_215 : decode cX7_endsReading 215 = .ok (.aload_n 0, 1) := by decide +kernel
theorem dX7_endsReading_216 : decode cX7_endsReading 216 = .ok (.iload_n 1, 1) := by decide +kernel
theorem dX7_endsReading_217 : decode cX7_endsReading 217 = .ok (.invokevirtual 212, 3) := by decide +kernel
theorem dX7_endsReading_220 : decode cX7_endsReading 220 = .ok (.aload_n 0, 1) := by decide +kernel
theorem dX7_endsReading_221 : decode cX7_endsReading 221 = .ok (.invokevirtual 215, 3) := by decide +kernel
theorem dX7_endsReading_224 : decode cX7_endsReading 224 = .ok (.istore 8, 2) := by decide +kernel
theorem dX7_endsReading_226 : decode cX7_endsReading 226 = .ok (.iload 8, 2) := by decide +kernel
theorem dX7_endsReading_228 : decode cX7_endsReading 228 = .ok (.iconst (-1), 1) := by decide +kernel
theorem dX7_endsReading_229 : decode cX7_endsReading 229 = .ok (.if_icmp .eq 29, 3) := by decide +kernel
theorem dX7_endsReading_232 : decode cX7_endsReading 232 = .ok (.aload_n 0, 1) := by decide +kernel
theorem dX7_endsReading_233 : decode cX7_endsReading 233 = .ok (.getfield 151, 3) := by decide +kernel
theorem dX7_endsReading_236 : decode cX7_endsReading 236 = .ok (.ifCond .le 22, 3) := by decide +kernel
theorem dX7_endsReading_239 : decode cX7_endsReading 239 = .ok (.aload_n 0, 1) := by decide +kernel
theorem dX7_endsReading_240 : decode cX7_endsReading 240 = .ok (.dup, 1) := by decide +kernel
theorem dX7_endsReading_241 : decode cX7_endsReading 241 = .ok (.getfield 151, 3) := by decide +kernel
theorem dX7_endsReading_244 : decode cX7_endsReading 244 = .ok (.iconst 1, 1) := by decide +kernel
theorem dX7_endsReading_245 : decode cX7_endsReading 245 = .ok (.isub, 1) := by decide +kernel
theorem dX7_endsReading_246 : decode cX7_endsReading 246 = .ok (.putfield 151, 3) := by decide +kernel
theorem dX7_endsReading_249 : decode cX7_endsReading 249 = .ok (.aload_n 0, 1) := by decide +kernel
theorem dX7_endsReading_250 : decode cX7_endsReading 250 = .ok (.iload 8, 2) := by decide +kernel
theorem dX7_endsReading_252 : decode cX7_endsReading 252 = .ok (.invokevirtual 219, 3) := by decide +kernel
theorem dX7_endsReading_255 : decode cX7_endsReading 255 = .ok (.iconst (-1), 1) := by decide +kernel
theorem dX7_endsReading_256 : decode cX7_endsReading 256 = .ok (.istore 8, 2) := by decide +kernel
theorem dX7_endsReading_258 : decode cX7_endsReading 258 = .ok (.iload 8, 2) := by decide +kernel
theorem dX7_endsReading_260 : decode cX7_endsReading 260 = .ok (.iconst (-1), 1) := by decide +kernel
theorem dX7_endsReading_261 : decode cX7_endsReading 261 = .ok (.if_icmp .eq 46, 3) := by decide +kernel
theorem dX7_endsReading_264 : decode cX7_endsReading 264 = .ok (.aload_n 0, 1) := by decide +kernel
theorem dX7_endsReading_265 : decode cX7_endsReading 265 = .ok (.getfield 96, 3) := by decide +kernel
theorem dX7_endsReading_268 : decode cX7_endsReading 268 = .ok (.iconst 1, 1) := by decide +kernel
theorem dX7_endsReading_269 : decode cX7_endsReading 269 = .ok (.dup2, 1) := by decide +kernel
theorem dX7_endsReading_270 : decode cX7_endsReading 270 = .ok (.iaload, 1) := by decide +kernel
theorem dX7_endsReading_271 : decode cX7_endsReading 271 = .ok (.iconst 1, 1) := by decide +kernel
theorem dX7_endsReading_272 : decode cX7_endsReading 272 = .ok (.iadd, 1) := by decide +kernel
theorem dX7_endsReading_273 : decode cX7_endsReading 273 = .ok (.iastore, 1) := by decide +kernel
theorem dX7_endsReading_274 : decode cX7_endsReading 274 = .ok (.aload_n 0, 1) := by decide +kernel
theorem dX7_endsReading_275 : decode cX7_endsReading 275 = .ok (.iload_n 1, 1) := by decide +kernel
theorem dX7_endsReading_276 : decode cX7_endsReading 276 = .ok (.aload_n 0, 1) := by decide +kernel
theorem dX7_endsReading_277 : decode cX7_endsReading 277 = .ok (.getfield 78, 3) := by decide +kernel
theorem dX7_endsReading_280 : decode cX7_endsReading 280 = .ok (.iload 8, 2) := by decide +kernel
theorem dX7_endsReading_282 : decode cX7_endsReading 282 = .ok (.iaload, 1) := by decide +kernel
theorem dX7_endsReading_283 : decode cX7_endsReading 283 = .ok (.aload_n 0, 1) := by decide +kernel
theorem dX7_endsReading_284 : decode cX7_endsReading 284 = .ok (.getfield 81, 3) := by decide +kernel
theorem dX7_endsReading_287 : decode cX7_endsReading 287 = .ok (.iload 8, 2) := by decide +kernel
theorem dX7_endsReading_289 : decode cX7_endsReading 289 = .ok (.iaload, 1) := by decide +kernel
theorem dX7_endsReading_290 : decode cX7_endsReading 290 = .ok (.invokevirtual 222, 3) := by decide +kernel
theorem dX7_endsReading_293 : decode cX7_endsReading 293 = .ok (.aload_n 0, 1) := by decide +kernel
theorem dX7_endsReading_294 : decode cX7_endsReading 294 = .ok (.iload_n 1, 1) := by decide +kernel
theorem dX7_endsReading_295 : decode cX7_endsReading 295 = .ok (.aload_n 0, 1) := by decide +kernel
theorem dX7_endsReading_296 : decode cX7_endsReading 296 = .ok (.getfield 78, 3) := by decide +kernel
theorem dX7_endsReading_299 : decode cX7_endsReading 299 = .ok (.iload 8, 2) := by decide +kernel
theorem dX7_endsReading_301 : decode cX7_endsReading 301 = .ok (.iaload, 1) := by decide +kernel
theorem dX7_endsReading_302 : decode cX7_endsReading 302 = .ok (.iconst 2, 1) := by decide +kernel
theorem dX7_endsReading_303 : decode cX7_endsReading 303 = .ok (.invokevirtual 175, 3) := by decide +kernel
theorem dX7_endsReading_306 : decode cX7_endsReading 306 = .ok (.return_, 1) := by decide +kernel
theorem dX7_endsReading_307 : decode cX7_endsReading 307 = .ok (.aload_n 0, 1) := by decide +kernel
theorem dX7_endsReading_308 : decode cX7_endsReading 308 = .ok (.iload_n 1, 1) := by decide +kernel
theorem dX7_endsReading_309 : decode cX7_endsReading 309 = .ok (.iload 7, 2) := by decide +kernel
theorem dX7_endsReading_311 : decode cX7_endsReading 311 = .ok (.invokevirtual 225, 3) := by decide +kernel
theorem dX7_endsReading_314 : decode cX7_endsReading 314 = .ok (.return_, 1) := by decide +kernel
set_option maxRecDepth 20000 in
theorem ggX7_runs_X7_nextMachine : GoodIn wsX7_runs wsX7_nextMachine := goodIn_r _ [14, 15, 16, 66, 67, 68, 69, 70, 71, 72, 73, 74, 75, 76, 77, 78, 79, 80, 81, 82, 83, 84, 85, 86, 87, 88, 89, 90, 91, 92, 93, 94, 95, 96, 97, 98, 99, 100, 101, 102, 103, 104, 105, 106, 107, 108, 109, 110, 111, 112, 113] (by decide +kernel) (by decide +kernel)
set_option maxRecDepth 20000 in
theorem gX7_runs_X7_nextMachine : GoodIn wsX7_runs (wsV RX7 229 RX7 yX7_nextMachine wsX7_nextMachine) := goodIn_app (goodIn_of _ (by decide +kernel)) ggX7_runs_X7_nextMachine
set_option maxRecDepth 20000 in
theorem ggX7_runs_X7_finishes : GoodIn wsX7_runs wsX7_finishes := goodIn_r _ [20, 21, 22, 23, 24, 25, 26, 66, 67, 68, 69, 70, 71, 72, 73, 74, 75, 76, 77, 78, 79, 80, 81, 82, 83, 84, 85, 86, 87, 88, 89, 90, 91, 92, 93, 94, 95, 96, 97, 98, 99, 100, 101, 102, 103, 104, 105, 106, 107, 108, 109, 110, 111, 112, 113] (by decide +kernel) (by decide +kernel)
set_option maxRecDepth 20000 in
theorem gX7_runs_X7_finishes : GoodIn wsX7_runs (wsV RX7 175 RX7 yX7_finishes wsX7_finishes) := goodIn_app (goodIn_of _ (by decide +kernel)) ggX7_runs_X7_finishes
set_option maxRecDepth 20000 in
theorem ggX7_runs_X7_putsAway : GoodIn wsX7_runs wsX7_putsAway := goodIn_r _ [30, 16, 5, 9, 26, 31, 32, 21, 33, 34, 35, 13, 36, 6, 8, 66, 67, 68, 69, 70, 71, 72, 73, 74, 75, 76, 77, 78, 79, 80, 81, 82, 83, 84, 85, 86, 87, 88, 89, 90, 91, 92, 93, 94, 95, 96, 97, 98, 99, 100, 101, 102, 103, 104, 105, 106, 107, 108, 109, 110, 111, 112, 113] (by decide +kernel) (by decide +kernel)
set_option maxRecDepth 20000 in
theorem gX7_runs_X7_putsAway : GoodIn wsX7_runs (wsV RX7 232 RX7 yX7_putsAway wsX7_putsAway) := goodIn_app (goodIn_of _ (by decide +kernel)) ggX7_runs_X7_putsAway
set_option maxRecDepth 20000 in
theorem ggX7_runs_X7_drops : GoodIn wsX7_runs wsX7_drops := goodIn_r _ [36, 5, 6, 8, 9, 66, 67, 68, 69, 70, 71, 72, 73, 74, 75, 76, 77, 78, 79, 80, 81, 82, 83, 84, 85, 86, 87, 88, 89, 90, 91, 92, 93, 94, 95, 96, 97, 98, 99, 100, 101, 102, 103, 104, 105, 106, 107, 108, 109, 110, 111, 112, 113] (by decide +kernel) (by decide +kernel)
set_option maxRecDepth 20000 in
theorem gX7_runs_X7_drops : GoodIn wsX7_runs (wsV RX7 219 RX7 yX7_drops wsX7_drops) := goodIn_app (goodIn_of _ (by decide +kernel)) ggX7_runs_X7_drops
set_option maxRecDepth 20000 in
theorem ggX7_runs_X7_keeps : GoodIn wsX7_runs wsX7_keeps := goodIn_r _ [40, 26, 32, 41, 42, 43, 44, 45, 46, 47, 48, 49, 50, 51, 52, 31, 53, 54, 55, 13, 56, 57, 58, 59, 60, 61, 62, 63, 64, 65, 66, 67, 68, 69, 70, 71, 72, 73, 74, 75, 76, 77, 78, 79, 80, 81, 82, 83, 84, 85, 86, 87, 88, 89, 90, 91, 92, 93, 94, 95, 96, 97, 98, 99, 100, 101, 102, 103, 104, 105, 106, 107, 108, 109, 110, 111, 112, 113] (by decide +kernel) (by decide +kernel)
set_option maxRecDepth 20000 in
theorem gX7_runs_X7_keeps : GoodIn wsX7_runs (wsV RX7 222 RX7 yX7_keeps wsX7_keeps) := goodIn_app (goodIn_of _ (by decide +kernel)) ggX7_runs_X7_keeps
theorem dX7_runs_0 : decode cX7_runs 0 = .ok (.iload_n 1, 1) := by decide +kernel
theorem dX7_runs_1 : decode cX7_runs 1 = .ok (.iconst 2, 1) := by decide +kernel
theorem dX7_runs_2 : decode cX7_runs 2 = .ok (.idiv, 1) := by decide +kernel
theorem dX7_runs_3 : decode cX7_runs 3 = .ok (.istore_n 3, 1) := by decide +kernel
theorem dX7_runs_4 : decode cX7_runs 4 = .ok (.iconst 1, 1) := by decide +kernel
theorem dX7_runs_5 : decode cX7_runs 5 = .ok (.istore 4, 2) := by decide +kernel
theorem dX7_runs_7 : decode cX7_runs 7 = .ok (.iconst 3, 1) := by decide +kernel
theorem dX7_runs_8 : decode cX7_runs 8 = .ok (.istore 5, 2) := by decide +kernel
theorem dX7_runs_10 : decode cX7_runs 10 = .ok (.iconst 0, 1) := by decide +kernel
theorem dX7_runs_11 : decode cX7_runs 11 = .ok (.istore 6, 2) := by decide +kernel
theorem dX7_runs_13 : decode cX7_runs 13 = .ok (.iload 6, 2) := by decide +kernel
theorem dX7_runs_15 : decode cX7_runs 15 = .ok (.iconst 3, 1) := by decide +kernel
theorem dX7_runs_16 : decode cX7_runs 16 = .ok (.if_icmp .ge 65, 3) := by decide +kernel
theorem dX7_runs_19 : decode cX7_runs 19 = .ok (.iload 4, 2) := by decide +kernel
theorem dX7_runs_21 : decode cX7_runs 21 = .ok (.ifCond .eq 60, 3) := by decide +kernel
theorem dX7_runs_24 : decode cX7_runs 24 = .ok (.aload_n 0, 1) := by decide +kernel
theorem dX7_runs_25 : decode cX7_runs 25 = .ok (.getfield 96, 3) := by decide +kernel
theorem dX7_runs_28 : decode cX7_runs 28 = .ok (.iconst 0, 1) := by decide +kernel
theorem dX7_runs_29 : decode cX7_runs 29 = .ok (.dup2, 1) := by decide +kernel
theorem dX7_runs_30 : decode cX7_runs 30 = .ok (.iaload, 1) := by decide +kernel
theorem dX7_runs_31 : decode cX7_runs 31 = .ok (.iconst 1, 1) := by decide +kernel
theorem dX7_runs_32 : decode cX7_runs 32 = .ok (.iadd, 1) := by decide +kernel
theorem dX7_runs_33 : decode cX7_runs 33 = .ok (.iastore, 1) := by decide +kernel
theorem dX7_runs_34 : decode cX7_runs 34 = .ok (.aload_n 0, 1) := by decide +kernel
theorem dX7_runs_35 : decode cX7_runs 35 = .ok (.invokevirtual 229, 3) := by decide +kernel
theorem dX7_runs_38 : decode cX7_runs 38 = .ok (.istore 5, 2) := by decide +kernel
theorem dX7_runs_40 : decode cX7_runs 40 = .ok (.aload_n 0, 1) := by decide +kernel
theorem dX7_runs_41 : decode cX7_runs 41 = .ok (.getfield 34, 3) := by decide +kernel
theorem dX7_runs_44 : decode cX7_runs 44 = .ok (.iload_n 3, 1) := by decide +kernel
theorem dX7_runs_45 : decode cX7_runs 45 = .ok (.iaload, 1) := by decide +kernel
theorem dX7_runs_46 : decode cX7_runs 46 = .ok (.ifCond .le 7, 3) := by decide +kernel
theorem dX7_runs_49 : decode cX7_runs 49 = .ok (.iconst 1, 1) := by decide +kernel
theorem dX7_runs_50 : decode cX7_runs 50 = .ok (.goto 4, 3) := by decide +kernel
theorem dX7_runs_53 : decode cX7_runs 53 = .ok (.iconst 0, 1) := by decide +kernel
theorem dX7_runs_54 : decode cX7_runs 54 = .ok (.istore 4, 2) := by decide +kernel
theorem dX7_runs_56 : decode cX7_runs 56 = .ok (.aload_n 0, 1) := by decide +kernel
theorem dX7_runs_57 : decode cX7_runs 57 = .ok (.getfield 34, 3) := by decide +kernel
theorem dX7_runs_60 : decode cX7_runs 60 = .ok (.iload_n 3, 1) := by decide +kernel
theorem dX7_runs_61 : decode cX7_runs 61 = .ok (.dup2, 1) := by decide +kernel
theorem dX7_runs_62 : decode cX7_runs 62 = .ok (.iaload, 1) := by decide +kernel
theorem dX7_runs_63 : decode cX7_runs 63 = .ok (.iload 4, 2) := by decide +kernel
theorem dX7_runs_65 : decode cX7_runs 65 = .ok (.ifCond .eq 7, 3) := by decide +kernel
theorem dX7_runs_68 : decode cX7_runs 68 = .ok (.iconst 1, 1) := by decide +kernel
theorem dX7_runs_69 : decode cX7_runs 69 = .ok (.goto 4, 3) := by decide +kernel
theorem dX7_runs_72 : decode cX7_runs 72 = .ok (.iconst 0, 1) := by decide +kernel
theorem dX7_runs_73 : decode cX7_runs 73 = .ok (.isub, 1) := by decide +kernel
theorem dX7_runs_74 : decode cX7_runs 74 = .ok (.iastore, 1) := by decide +kernel
theorem dX7_runs_75 : decode cX7_runs 75 = .ok (.iinc 6 1, 3) := by decide +kernel
theorem dX7_runs_78 : decode cX7_runs 78 = .ok (.goto (-65), 3) := by decide +kernel
theorem dX7_runs_81 : decode cX7_runs 81 = .ok (.iload 4, 2) := by decide +kernel
theorem dX7_runs_83 : decode cX7_runs 83 = .ok (.ifCond .eq 12, 3) := by decide +kernel
theorem dX7_runs_86 : decode cX7_runs 86 = .ok (.aload_n 0, 1) := by decide +kernel
theorem dX7_runs_87 : decode cX7_runs 87 = .ok (.iload_n 1, 1) := by decide +kernel
theorem dX7_runs_88 : decode cX7_runs 88 = .ok (.bipush (-5), 2) := by decide +kernel
theorem dX7_runs_90 : decode cX7_runs 90 = .ok (.iconst 4, 1) := by decide +kernel
theorem dX7_runs_91 : decode cX7_runs 91 = .ok (.invokevirtual 175, 3) := by decide +kernel
theorem dX7_runs_94 : decode cX7_runs 94 = .ok (.return_, 1) := by decide +kernel
theorem dX7_runs_95 : decode cX7_runs 95 = .ok (.iload 5, 2) := by decide +kernel
theorem dX7_runs_97 : decode cX7_runs 97 = .ok (.iconst 3, 1) := by decide +kernel
theorem dX7_runs_98 : decode cX7_runs 98 = .ok (.if_icmp .eq 23, 3) := by decide +kernel
theorem dX7_runs_101 : decode cX7_runs 101 = .ok (.aload_n 0, 1) := by decide +kernel
theorem dX7_runs_102 : decode cX7_runs 102 = .ok (.getfield 37, 3) := by decide +kernel
theorem dX7_runs_105 : decode cX7_runs 105 = .ok (.iload 5, 2) := by decide +kernel
theorem dX7_runs_107 : decode cX7_runs 107 = .ok (.baload, 1) := by decide +kernel
theorem dX7_runs_108 : decode cX7_runs 108 = .ok (.ifCond .eq 13, 3) := by decide +kernel
theorem dX7_runs_111 : decode cX7_runs 111 = .ok (.iload_n 2, 1) := by decide +kernel
theorem dX7_runs_112 : decode cX7_runs 112 = .ok (.iconst 1, 1) := by decide +kernel
theorem dX7_runs_113 : decode cX7_runs 113 = .ok (.iadd, 1) := by decide +kernel
theorem dX7_runs_114 : decode cX7_runs 114 = .ok (.sipush 1000, 3) := by decide +kernel
theorem dX7_runs_117 : decode cX7_runs 117 = .ok (.irem, 1) := by decide +kernel
theorem dX7_runs_118 : decode cX7_runs 118 = .ok (.goto 4, 3) := by decide +kernel
theorem dX7_runs_121 : decode cX7_runs 121 = .ok (.iload_n 2, 1) := by decide +kernel
theorem dX7_runs_122 : decode cX7_runs 122 = .ok (.istore 6, 2) := by decide +kernel
theorem dX7_runs_124 : decode cX7_runs 124 = .ok (.iload 5, 2) := by decide +kernel
theorem dX7_runs_126 : decode cX7_runs 126 = .ok (.iconst 3, 1) := by decide +kernel
theorem dX7_runs_127 : decode cX7_runs 127 = .ok (.if_icmp .eq 38, 3) := by decide +kernel
theorem dX7_runs_130 : decode cX7_runs 130 = .ok (.aload_n 0, 1) := by decide +kernel
theorem dX7_runs_131 : decode cX7_runs 131 = .ok (.getfield 147, 3) := by decide +kernel
theorem dX7_runs_134 : decode cX7_runs 134 = .ok (.ifCond .eq 31, 3) := by decide +kernel
theorem dX7_runs_137 : decode cX7_runs 137 = .ok (.aload_n 0, 1) := by decide +kernel
theorem dX7_runs_138 : decode cX7_runs 138 = .ok (.getfield 96, 3) := by decide +kernel
theorem dX7_runs_141 : decode cX7_runs 141 = .ok (.iconst 0, 1) := by decide +kernel
theorem dX7_runs_142 : decode cX7_runs 142 = .ok (.dup2, 1) := by decide +kernel
theorem dX7_runs_143 : decode cX7_runs 143 = .ok (.iaload, 1) := by decide +kernel
theorem dX7_runs_144 : decode cX7_runs 144 = .ok (.iconst 1, 1) := by decide +kernel
theorem dX7_runs_145 : decode cX7_runs 145 = .ok (.iadd, 1) := by decide +kernel
theorem dX7_runs_146 : decode cX7_runs 146 = .ok (.iastore, 1) := by decide +kernel
theorem dX7_runs_147 : decode cX7_runs 147 = .ok (.iload 6, 2) := by decide +kernel
theorem dX7_runs_149 : decode cX7_runs 149 = .ok (.iload_n 2, 1) := by decide +kernel
theorem dX7_runs_150 : decode cX7_runs 150 = .ok (.if_icmp .eq 15, 3) := by decide +kernel
theorem dX7_runs_153 : decode cX7_runs 153 = .ok (.iload_n 2, 1) := by decide +kernel
theorem dX7_runs_154 : decode cX7_runs 154 = .ok (.istore 6, 2) := by decide +kernel
theorem dX7_runs_156 : decode cX7_runs 156 = .ok (.aload_n 0, 1) := by decide +kernel
theorem dX7_runs_157 : decode cX7_runs 157 = .ok (.iload 5, 2) := by decide +kernel
theorem dX7_runs_159 : decode cX7_runs 159 = .ok (.invokevirtual 232, 3) := by decide +kernel
theorem dX7_runs_162 : decode cX7_runs 162 = .ok (.iconst 3, 1) := by decide +kernel
theorem dX7_runs_163 : decode cX7_runs 163 = .ok (.istore 5, 2) := by decide +kernel
theorem dX7_runs_165 : decode cX7_runs 165 = .ok (.aload_n 0, 1) := by decide +kernel
theorem dX7_runs_166 : decode cX7_runs 166 = .ok (.getfield 154, 3) := by decide +kernel
theorem dX7_runs_169 : decode cX7_runs 169 = .ok (.istore 7, 2) := by decide +kernel
theorem dX7_runs_171 : decode cX7_runs 171 = .ok (.aload_n 0, 1) := by decide +kernel
theorem dX7_runs_172 : decode cX7_runs 172 = .ok (.dup, 1) := by decide +kernel
theorem dX7_runs_173 : decode cX7_runs 173 = .ok (.getfield 154, 3) := by decide +kernel
theorem dX7_runs_176 : decode cX7_runs 176 = .ok (.iconst 1, 1) := by decide +kernel
theorem dX7_runs_177 : decode cX7_runs 177 = .ok (.iadd, 1) := by decide +kernel
theorem dX7_runs_178 : decode cX7_runs 178 = .ok (.putfield 154, 3) := by decide +kernel
theorem dX7_runs_181 : decode cX7_runs 181 = .ok (.iconst 0, 1) := by decide +kernel
theorem dX7_runs_182 : decode cX7_runs 182 = .ok (.istore 8, 2) := by decide +kernel
theorem dX7_runs_184 : decode cX7_runs 184 = .ok (.iload 8, 2) := by decide +kernel
theorem dX7_runs_186 : decode cX7_runs 186 = .ok (.bipush 6, 2) := by decide +kernel
theorem dX7_runs_188 : decode cX7_runs 188 = .ok (.if_icmp .ge 29, 3) := by decide +kernel
theorem dX7_runs_191 : decode cX7_runs 191 = .ok (.aload_n 0, 1) := by decide +kernel
theorem dX7_runs_192 : decode cX7_runs 192 = .ok (.getfield 75, 3) := by decide +kernel
theorem dX7_runs_195 : decode cX7_runs 195 = .ok (.bipush 6, 2) := by decide +kernel
theorem dX7_runs_197 : decode cX7_runs 197 = .ok (.iload 7, 2) := by decide +kernel
theorem dX7_runs_199 : decode cX7_runs 199 = .ok (.imul, 1) := by decide +kernel
theorem dX7_runs_200 : decode cX7_runs 200 = .ok (.iload 8, 2) := by decide +kernel
theorem dX7_runs_202 : decode cX7_runs 202 = .ok (.iadd, 1) := by decide +kernel
theorem dX7_runs_203 : decode cX7_runs 203 = .ok (.aload_n 0, 1) := by decide +kernel
theorem dX7_runs_204 : decode cX7_runs 204 = .ok (.getfield 120, 3) := by decide +kernel
theorem dX7_runs_207 : decode cX7_runs 207 = .ok (.iload 8, 2) := by decide +kernel
theorem dX7_runs_209 : decode cX7_runs 209 = .ok (.laload, 1) := by decide +kernel
theorem dX7_runs_210 : decode cX7_runs 210 = .ok (.lastore, 1) := by decide +kernel
theorem dX7_runs_211 : decode cX7_runs 211 = .ok (.iinc 8 1, 3) := by decide +kernel
theorem dX7_runs_214 : decode cX7_runs 214 = .ok (.goto (-30), 3) := by decide +kernel
theorem dX7_runs_217 : decode cX7_runs 217 = .ok (.aload_n 0, 1) := by decide +kernel
theorem dX7_runs_218 : decode cX7_runs 218 = .ok (.getfield 78, 3) := by decide +kernel
theorem dX7_runs_221 : decode cX7_runs 221 = .ok (.iload 7, 2) := by decide +kernel
theorem dX7_runs_223 : decode cX7_runs 223 = .ok (.iload 6, 2) := by decide +kernel
theorem dX7_runs_225 : decode cX7_runs 225 = .ok (.iastore, 1) := by decide +kernel
theorem dX7_runs_226 : decode cX7_runs 226 = .ok (.aload_n 0, 1) := by decide +kernel
theorem dX7_runs_227 : decode cX7_runs 227 = .ok (.getfield 81, 3) := by decide +kernel
theorem dX7_runs_230 : decode cX7_runs 230 = .ok (.iload 7, 2) := by decide +kernel
theorem dX7_runs_232 : decode cX7_runs 232 = .ok (.iload 5, 2) := by decide +kernel
theorem dX7_runs_234 : decode cX7_runs 234 = .ok (.iastore, 1) := by decide +kernel
theorem dX7_runs_235 : decode cX7_runs 235 = .ok (.aload_n 0, 1) := by decide +kernel
theorem dX7_runs_236 : decode cX7_runs 236 = .ok (.getfield 154, 3) := by decide +kernel
theorem dX7_runs_239 : decode cX7_runs 239 = .ok (.bipush 100, 2) := by decide +kernel
theorem dX7_runs_241 : decode cX7_runs 241 = .ok (.if_icmp .le 8, 3) := by decide +kernel
theorem dX7_runs_244 : decode cX7_runs 244 = .ok (.aload_n 0, 1) := by decide +kernel
theorem dX7_runs_245 : decode cX7_runs 245 = .ok (.iconst 0, 1) := by decide +kernel
theorem dX7_runs_246 : decode cX7_runs 246 = .ok (.invokevirtual 219, 3) := by decide +kernel
theorem dX7_runs_249 : decode cX7_runs 249 = .ok (.aload_n 0, 1) := by decide +kernel
theorem dX7_runs_250 : decode cX7_runs 250 = .ok (.iload_n 1, 1) := by decide +kernel
theorem dX7_runs_251 : decode cX7_runs 251 = .ok (.iload 6, 2) := by decide +kernel
theorem dX7_runs_253 : decode cX7_runs 253 = .ok (.iload 5, 2) := by decide +kernel
theorem dX7_runs_255 : decode cX7_runs 255 = .ok (.invokevirtual 222, 3) := by decide +kernel
theorem dX7_runs_258 : decode cX7_runs 258 = .ok (.aload_n 0, 1) := by decide +kernel
theorem dX7_runs_259 : decode cX7_runs 259 = .ok (.iload_n 1, 1) := by decide +kernel
theorem dX7_runs_260 : decode cX7_runs 260 = .ok (.iload 6, 2) := by decide +kernel
theorem dX7_runs_262 : decode cX7_runs 262 = .ok (.iconst 3, 1) := by decide +kernel
theorem dX7_runs_263 : decode cX7_runs 263 = .ok (.invokevirtual 175, 3) := by decide +kernel
theorem dX7_runs_266 : decode cX7_runs 266 = .ok (.return_, 1) := by decide +kernel
theorem dX7_nextMachine_0 : decode cX7_nextMachine 0 = .ok (.iconst 0, 1) := by decide +kernel
theorem dX7_nextMachine_1 : decode cX7_nextMachine 1 = .ok (.istore_n 1, 1) := by decide +kernel
theorem dX7_nextMachine_2 : decode cX7_nextMachine 2 = .ok (.iload_n 1, 1) := by decide +kernel
theorem dX7_nextMachine_3 : decode cX7_nextMachine 3 = .ok (.iconst 3, 1) := by decide +kernel
theorem dX7_nextMachine_4 : decode cX7_nextMachine 4 = .ok (.if_icmp .ge 38, 3) := by decide +kernel
theorem dX7_nextMachine_7 : decode cX7_nextMachine 7 = .ok (.aload_n 0, 1) := by decide +kernel
theorem dX7_nextMachine_8 : decode cX7_nextMachine 8 = .ok (.getfield 235, 3) := by decide +kernel
theorem dX7_nextMachine_11 : decode cX7_nextMachine 11 = .ok (.iload_n 1, 1) := by decide +kernel
theorem dX7_nextMachine_12 : decode cX7_nextMachine 12 = .ok (.iadd, 1) := by decide +kernel
theorem dX7_nextMachine_13 : decode cX7_nextMachine 13 = .ok (.iconst 3, 1) := by decide +kernel
theorem dX7_nextMachine_14 : decode cX7_nextMachine 14 = .ok (.irem, 1) := by decide +kernel
theorem dX7_nextMachine_15 : decode cX7_nextMachine 15 = .ok (.istore_n 2, 1) := by decide +kernel
theorem dX7_nextMachine_16 : decode cX7_nextMachine 16 = .ok (.aload_n 0, 1) := by decide +kernel
theorem dX7_nextMachine_17 : decode cX7_nextMachine 17 = .ok (.getfield 41, 3) := by decide +kernel
theorem dX7_nextMachine_20 : decode cX7_nextMachine 20 = .ok (.iload_n 2, 1) := by decide +kernel
theorem dX7_nextMachine_21 : decode cX7_nextMachine 21 = .ok (.baload, 1) := by decide +kernel
theorem dX7_nextMachine_22 : decode cX7_nextMachine 22 = .ok (.ifCond .ne 14, 3) := by decide +kernel
theorem dX7_nextMachine_25 : decode cX7_nextMachine 25 = .ok (.aload_n 0, 1) := by decide +kernel
theorem dX7_nextMachine_26 : decode cX7_nextMachine 26 = .ok (.iload_n 2, 1) := by decide +kernel
theorem dX7_nextMachine_27 : decode cX7_nextMachine 27 = .ok (.iconst 1, 1) := by decide +kernel
theorem dX7_nextMachine_28 : decode cX7_nextMachine 28 = .ok (.iadd, 1) := by decide +kernel
theorem dX7_nextMachine_29 : decode cX7_nextMachine 29 = .ok (.iconst 3, 1) := by decide +kernel
theorem dX7_nextMachine_30 : decode cX7_nextMachine 30 = .ok (.irem, 1) := by decide +kernel
theorem dX7_nextMachine_31 : decode cX7_nextMachine 31 = .ok (.putfield 235, 3) := by decide +kernel
theorem dX7_nextMachine_34 : decode cX7_nextMachine 34 = .ok (.iload_n 2, 1) := by decide +kernel
theorem dX7_nextMachine_35 : decode cX7_nextMachine 35 = .ok (.ireturn, 1) := by decide +kernel
theorem dX7_nextMachine_36 : decode cX7_nextMachine 36 = .ok (.iinc 1 1, 3) := by decide +kernel
theorem dX7_nextMachine_39 : decode cX7_nextMachine 39 = .ok (.goto (-37), 3) := by decide +kernel
theorem dX7_nextMachine_42 : decode cX7_nextMachine 42 = .ok (.iconst 3, 1) := by decide +kernel
theorem dX7_nextMachine_43 : decode cX7_nextMachine 43 = .ok (.ireturn, 1) := by decide +kernel
set_option maxRecDepth 20000 in
theorem ggX7_putsAway_X7_drops : GoodIn wsX7_putsAway wsX7_drops := goodIn_r _ [12, 2, 13, 14, 3, 15, 16, 17, 18, 19, 20, 21, 22, 23, 24, 25, 26, 27, 28, 29, 30, 31, 32, 33, 34, 35, 36, 37, 38, 39, 40, 41, 42, 43, 44, 45, 46, 47, 48, 49, 50, 51, 52, 53, 54, 55, 56, 57, 58, 59, 60, 61, 62] (by decide +kernel) (by decide +kernel)
set_option maxRecDepth 20000 in
theorem gX7_putsAway_X7_drops : GoodIn wsX7_putsAway (wsV RX7 219 RX7 yX7_drops wsX7_drops) := goodIn_app (goodIn_of _ (by decide +kernel)) ggX7_putsAway_X7_drops
theorem dX7_putsAway_0 : decode cX7_putsAway 0 = .ok (.aload_n 0, 1) := by decide +kernel
theorem dX7_putsAway_1 : decode cX7_putsAway 1 = .ok (.getfield 41, 3) := by decide +kernel
theorem dX7_putsAway_4 : decode cX7_putsAway 4 = .ok (.iload_n 1, 1) := by decide +kernel
theorem dX7_putsAway_5 : decode cX7_putsAway 5 = .ok (.iconst 1, 1) := by decide +kernel
theorem dX7_putsAway_6 : decode cX7_putsAway 6 = .ok (.bastore, 1) := by decide +kernel
theorem dX7_putsAway_7 : decode cX7_putsAway 7 = .ok (.aload_n 0, 1) := by decide +kernel
theorem dX7_putsAway_8 : decode cX7_putsAway 8 = .ok (.getfield 154, 3) := by decide +kernel
theorem dX7_putsAway_11 : decode cX7_putsAway 11 = .ok (.iconst 1, 1) := by decide +kernel
theorem dX7_putsAway_12 : decode cX7_putsAway 12 = .ok (.isub, 1) := by decide +kernel
theorem dX7_putsAway_13 : decode cX7_putsAway 13 = .ok (.istore_n 2, 1) := by decide +kernel
theorem dX7_putsAway_14 : decode cX7_putsAway 14 = .ok (.iload_n 2, 1) := by decide +kernel
theorem dX7_putsAway_15 : decode cX7_putsAway 15 = .ok (.ifCond .lt 24, 3) := by decide +kernel
theorem dX7_putsAway_18 : decode cX7_putsAway 18 = .ok (.aload_n 0, 1) := by decide +kernel
theorem dX7_putsAway_19 : decode cX7_putsAway 19 = .ok (.getfield 81, 3) := by decide +kernel
theorem dX7_putsAway_22 : decode cX7_putsAway 22 = .ok (.iload_n 2, 1) := by decide +kernel
theorem dX7_putsAway_23 : decode cX7_putsAway 23 = .ok (.iaload, 1) := by decide +kernel
theorem dX7_putsAway_24 : decode cX7_putsAway 24 = .ok (.iload_n 1, 1) := by decide +kernel
theorem dX7_putsAway_25 : decode cX7_putsAway 25 = .ok (.if_icmp .ne 8, 3) := by decide +kernel
theorem dX7_putsAway_28 : decode cX7_putsAway 28 = .ok (.aload_n 0, 1) := by decide +kernel
theorem dX7_putsAway_29 : decode cX7_putsAway 29 = .ok (.iload_n 2, 1) := by decide +kernel
theorem dX7_putsAway_30 : decode cX7_putsAway 30 = .ok (.invokevirtual 219, 3) := by decide +kernel
theorem dX7_putsAway_33 : decode cX7_putsAway 33 = .ok (.iinc 2 (-1), 3) := by decide +kernel
theorem dX7_putsAway_36 : decode cX7_putsAway 36 = .ok (.goto (-22), 3) := by decide +kernel
theorem dX7_putsAway_39 : decode cX7_putsAway 39 = .ok (.iconst 0, 1) := by decide +kernel
theorem dX7_putsAway_40 : decode cX7_putsAway 40 = .ok (.istore_n 2, 1) := by decide +kernel
theorem dX7_putsAway_41 : decode cX7_putsAway 41 = .ok (.iload_n 2, 1) := by decide +kernel
theorem dX7_putsAway_42 : decode cX7_putsAway 42 = .ok (.bipush 32, 2) := by decide +kernel
theorem dX7_putsAway_44 : decode cX7_putsAway 44 = .ok (.if_icmp .ge 91, 3) := by decide +kernel
theorem dX7_putsAway_47 : decode cX7_putsAway 47 = .ok (.aload_n 0, 1) := by decide +kernel
theorem dX7_putsAway_48 : decode cX7_putsAway 48 = .ok (.getfield 44, 3) := by decide +kernel
theorem dX7_putsAway_51 : decode cX7_putsAway 51 = .ok (.iload_n 2, 1) := by decide +kernel
theorem dX7_putsAway_52 : decode cX7_putsAway 52 = .ok (.baload, 1) := by decide +kernel
theorem dX7_putsAway_53 : decode cX7_putsAway 53 = .ok (.ifCond .eq 17, 3) := by decide +kernel
theorem dX7_putsAway_56 : decode cX7_putsAway 56 = .ok (.aload_n 0, 1) := by decide +kernel
theorem dX7_putsAway_57 : decode cX7_putsAway 57 = .ok (.getfield 69, 3) := by decide +kernel
theorem dX7_putsAway_60 : decode cX7_putsAway 60 = .ok (.iload_n 2, 1) := by decide +kernel
theorem dX7_putsAway_61 : decode cX7_putsAway 61 = .ok (.iaload, 1) := by decide +kernel
theorem dX7_putsAway_62 : decode cX7_putsAway 62 = .ok (.iload_n 1, 1) := by decide +kernel
theorem dX7_putsAway_63 : decode cX7_putsAway 63 = .ok (.if_icmp .ne 7, 3) := by decide +kernel
theorem dX7_putsAway_66 : decode cX7_putsAway 66 = .ok (.iconst 1, 1) := by decide +kernel
theorem dX7_putsAway_67 : decode cX7_putsAway 67 = .ok (.goto 4, 3) := by decide +kernel
theorem dX7_putsAway_70 : decode cX7_putsAway 70 = .ok (.iconst 0, 1) := by decide +kernel
theorem dX7_putsAway_71 : decode cX7_putsAway 71 = .ok (.istore_n 3, 1) := by decide +kernel
theorem dX7_putsAway_72 : decode cX7_putsAway 72 = .ok (.aload_n 0, 1) := by decide +kernel
theorem dX7_putsAway_73 : decode cX7_putsAway 73 = .ok (.getfield 72, 3) := by decide +kernel
theorem dX7_putsAway_76 : decode cX7_putsAway 76 = .ok (.iload_n 2, 1) := by decide +kernel
theorem dX7_putsAway_77 : decode cX7_putsAway 77 = .ok (.aload_n 0, 1) := by decide +kernel
theorem dX7_putsAway_78 : decode cX7_putsAway 78 = .ok (.getfield 72, 3) := by decide +kernel
theorem dX7_putsAway_81 : decode cX7_putsAway 81 = .ok (.iload_n 2, 1) := by decide +kernel
theorem dX7_putsAway_82 : decode cX7_putsAway 82 = .ok (.baload, 1) := by decide +kernel
theorem dX7_putsAway_83 : decode cX7_putsAway 83 = .ok (.ifCond .ne 7, 3) := by decide +kernel
theorem dX7_putsAway_86 : decode cX7_putsAway 86 = .ok (.iload_n 3, 1) := by decide +kernel
theorem dX7_putsAway_87 : decode cX7_putsAway 87 = .ok (.ifCond .eq 7, 3) := by decide +kernel
theorem dX7_putsAway_90 : decode cX7_putsAway 90 = .ok (.iconst 1, 1) := by decide +kernel
theorem dX7_putsAway_91 : decode cX7_putsAway 91 = .ok (.goto 4, 3) := by decide +kernel
theorem dX7_putsAway_94 : decode cX7_putsAway 94 = .ok (.iconst 0, 1) := by decide +kernel
theorem dX7_putsAway_95 : decode cX7_putsAway 95 = .ok (.bastore, 1) := by decide +kernel
theorem dX7_putsAway_96 : decode cX7_putsAway 96 = .ok (.aload_n 0, 1) := by decide +kernel
theorem dX7_putsAway_97 : decode cX7_putsAway 97 = .ok (.getfield 44, 3) := by decide +kernel
theorem dX7_putsAway_100 : decode cX7_putsAway 100 = .ok (.iload_n 2, 1) := by decide +kernel
theorem dX7_putsAway_101 : decode cX7_putsAway 101 = .ok (.aload_n 0, 1) := by decide +kernel
theorem dX7_putsAway_102 : decode cX7_putsAway 102 = .ok (.getfield 44, 3) := by decide +kernel
theorem dX7_putsAway_105 : decode cX7_putsAway 105 = .ok (.iload_n 2, 1) := by decide +kernel
theorem dX7_putsAway_106 : decode cX7_putsAway 106 = .ok (.baload, 1) := by decide +kernel
theorem dX7_putsAway_107 : decode cX7_putsAway 107 = .ok (.ifCond .eq 20, 3) := by decide +kernel
theorem dX7_putsAway_110 : decode cX7_putsAway 110 = .ok (.iload_n 3, 1) := by decide +kernel
theorem dX7_putsAway_111 : decode cX7_putsAway 111 = .ok (.ifCond .eq 12, 3) := by decide +kernel
theorem dX7_putsAway_114 : decode cX7_putsAway 114 = .ok (.aload_n 0, 1) := by decide +kernel
theorem dX7_putsAway_115 : decode cX7_putsAway 115 = .ok (.getfield 84, 3) := by decide +kernel
theorem dX7_putsAway_118 : decode cX7_putsAway 118 = .ok (.iload_n 2, 1) := by decide +kernel
theorem dX7_putsAway_119 : decode cX7_putsAway 119 = .ok (.iaload, 1) := by decide +kernel
theorem dX7_putsAway_120 : decode cX7_putsAway 120 = .ok (.ifCond .le 7, 3) := by decide +kernel
theorem dX7_putsAway_123 : decode cX7_putsAway 123 = .ok (.iconst 1, 1) := by decide +kernel
theorem dX7_putsAway_124 : decode cX7_putsAway 124 = .ok (.goto 4, 3) := by decide +kernel
theorem dX7_putsAway_127 : decode cX7_putsAway 127 = .ok (.iconst 0, 1) := by decide +kernel
theorem dX7_putsAway_128 : decode cX7_putsAway 128 = .ok (.bastore, 1) := by decide +kernel
theorem dX7_putsAway_129 : decode cX7_putsAway 129 = .ok (.iinc 2 1, 3) := by decide +kernel
theorem dX7_putsAway_132 : decode cX7_putsAway 132 = .ok (.goto (-91), 3) := by decide +kernel
theorem dX7_putsAway_135 : decode cX7_putsAway 135 = .ok (.return_, 1) := by decide +kernel
set_option maxRecDepth 20000 in
theorem ggX7_keeps_X7_ruleOf : GoodIn wsX7_keeps wsX7_ruleOf := goodIn_r _ [20, 21, 22, 23, 24, 25, 26, 27, 28, 29, 30, 31, 32, 33, 34, 35, 36, 37, 38, 39, 40, 41, 42, 43, 44, 45, 46, 47, 48, 49, 50, 51, 52, 53, 54, 55, 56, 57, 58, 59, 60, 61, 62, 63, 64, 65, 66, 67, 68, 69, 70, 71, 72, 73, 74, 75, 76, 77] (by decide +kernel) (by decide +kernel)
set_option maxRecDepth 20000 in
theorem gX7_keeps_X7_ruleOf : GoodIn wsX7_keeps (wsV RX7 168 RX7 yX7_ruleOf wsX7_ruleOf) := goodIn_app (goodIn_of _ (by decide +kernel)) ggX7_keeps_X7_ruleOf
theorem dX7_keeps_0 : decode cX7_keeps 0 = .ok (.iload_n 1, 1) := by decide +kernel
theorem dX7_keeps_1 : decode cX7_keeps 1 = .ok (.iconst 2, 1) := by decide +kernel
theorem dX7_keeps_2 : decode cX7_keeps 2 = .ok (.idiv, 1) := by decide +kernel
theorem dX7_keeps_3 : decode cX7_keeps 3 = .ok (.istore 4, 2) := by decide +kernel
theorem dX7_keeps_5 : decode cX7_keeps 5 = .ok (.aload_n 0, 1) := by decide +kernel
theorem dX7_keeps_6 : decode cX7_keeps 6 = .ok (.getfield 44, 3) := by decide +kernel
theorem dX7_keeps_9 : decode cX7_keeps 9 = .ok (.iload_n 1, 1) := by decide +kernel
theorem dX7_keeps_10 : decode cX7_keeps 10 = .ok (.iconst 1, 1) := by decide +kernel
theorem dX7_keeps_11 : decode cX7_keeps 11 = .ok (.bastore, 1) := by decide +kernel
theorem dX7_keeps_12 : decode cX7_keeps 12 = .ok (.aload_n 0, 1) := by decide +kernel
theorem dX7_keeps_13 : decode cX7_keeps 13 = .ok (.getfield 72, 3) := by decide +kernel
theorem dX7_keeps_16 : decode cX7_keeps 16 = .ok (.iload_n 1, 1) := by decide +kernel
theorem dX7_keeps_17 : decode cX7_keeps 17 = .ok (.iconst 0, 1) := by decide +kernel
theorem dX7_keeps_18 : decode cX7_keeps 18 = .ok (.bastore, 1) := by decide +kernel
theorem dX7_keeps_19 : decode cX7_keeps 19 = .ok (.aload_n 0, 1) := by decide +kernel
theorem dX7_keeps_20 : decode cX7_keeps 20 = .ok (.getfield 47, 3) := by decide +kernel
theorem dX7_keeps_23 : decode cX7_keeps 23 = .ok (.iload_n 1, 1) := by decide +kernel
theorem dX7_keeps_24 : decode cX7_keeps 24 = .ok (.aload_n 0, 1) := by decide +kernel
theorem dX7_keeps_25 : decode cX7_keeps 25 = .ok (.iload 4, 2) := by decide +kernel
theorem dX7_keeps_27 : decode cX7_keeps 27 = .ok (.invokevirtual 168, 3) := by decide +kernel
theorem dX7_keeps_30 : decode cX7_keeps 30 = .ok (.lastore, 1) := by decide +kernel
theorem dX7_keeps_31 : decode cX7_keeps 31 = .ok (.aload_n 0, 1) := by decide +kernel
theorem dX7_keeps_32 : decode cX7_keeps 32 = .ok (.getfield 51, 3) := by decide +kernel
theorem dX7_keeps_35 : decode cX7_keeps 35 = .ok (.iload_n 1, 1) := by decide +kernel
theorem dX7_keeps_36 : decode cX7_keeps 36 = .ok (.aload_n 0, 1) := by decide +kernel
theorem dX7_keeps_37 : decode cX7_keeps 37 = .ok (.getfield 22, 3) := by decide +kernel
theorem dX7_keeps_40 : decode cX7_keeps 40 = .ok (.iload 4, 2) := by decide +kernel
theorem dX7_keeps_42 : decode cX7_keeps 42 = .ok (.iaload, 1) := by decide +kernel
theorem dX7_keeps_43 : decode cX7_keeps 43 = .ok (.iastore, 1) := by decide +kernel
theorem dX7_keeps_44 : decode cX7_keeps 44 = .ok (.aload_n 0, 1) := by decide +kernel
theorem dX7_keeps_45 : decode cX7_keeps 45 = .ok (.getfield 54, 3) := by decide +kernel
theorem dX7_keeps_48 : decode cX7_keeps 48 = .ok (.iload_n 1, 1) := by decide +kernel
theorem dX7_keeps_49 : decode cX7_keeps 49 = .ok (.aload_n 0, 1) := by decide +kernel
theorem dX7_keeps_50 : decode cX7_keeps 50 = .ok (.getfield 108, 3) := by decide +kernel
theorem dX7_keeps_53 : decode cX7_keeps 53 = .ok (.iload_n 1, 1) := by decide +kernel
theorem dX7_keeps_54 : decode cX7_keeps 54 = .ok (.iaload, 1) := by decide +kernel
theorem dX7_keeps_55 : decode cX7_keeps 55 = .ok (.iastore, 1) := by decide +kernel
theorem dX7_keeps_56 : decode cX7_keeps 56 = .ok (.iconst 5, 1) := by decide +kernel
theorem dX7_keeps_57 : decode cX7_keeps 57 = .ok (.iload_n 1, 1) := by decide +kernel
theorem dX7_keeps_58 : decode cX7_keeps 58 = .ok (.imul, 1) := by decide +kernel
theorem dX7_keeps_59 : decode cX7_keeps 59 = .ok (.istore 5, 2) := by decide +kernel
theorem dX7_keeps_61 : decode cX7_keeps 61 = .ok (.iload 5, 2) := by decide +kernel
theorem dX7_keeps_63 : decode cX7_keeps 63 = .ok (.iconst 5, 1) := by decide +kernel
theorem dX7_keeps_64 : decode cX7_keeps 64 = .ok (.iload_n 1, 1) := by decide +kernel
theorem dX7_keeps_65 : decode cX7_keeps 65 = .ok (.imul, 1) := by decide +kernel
theorem dX7_keeps_66 : decode cX7_keeps 66 = .ok (.iconst 5, 1) := by decide +kernel
theorem dX7_keeps_67 : decode cX7_keeps 67 = .ok (.iadd, 1) := by decide +kernel
theorem dX7_keeps_68 : decode cX7_keeps 68 = .ok (.if_icmp .ge 51, 3) := by decide +kernel
theorem dX7_keeps_71 : decode cX7_keeps 71 = .ok (.aload_n 0, 1) := by decide +kernel
theorem dX7_keeps_72 : decode cX7_keeps 72 = .ok (.getfield 57, 3) := by decide +kernel
theorem dX7_keeps_75 : decode cX7_keeps 75 = .ok (.iload 5, 2) := by decide +kernel
theorem dX7_keeps_77 : decode cX7_keeps 77 = .ok (.aload_n 0, 1) := by decide +kernel
theorem dX7_keeps_78 : decode cX7_keeps 78 = .ok (.getfield 111, 3) := by decide +kernel
theorem dX7_keeps_81 : decode cX7_keeps 81 = .ok (.iload 5, 2) := by decide +kernel
theorem dX7_keeps_83 : decode cX7_keeps 83 = .ok (.iaload, 1) := by decide +kernel
theorem dX7_keeps_84 : decode cX7_keeps 84 = .ok (.iastore, 1) := by decide +kernel
theorem dX7_keeps_85 : decode cX7_keeps 85 = .ok (.aload_n 0, 1) := by decide +kernel
theorem dX7_keeps_86 : decode cX7_keeps 86 = .ok (.getfield 60, 3) := by decide +kernel
theorem dX7_keeps_89 : decode cX7_keeps 89 = .ok (.iload 5, 2) := by decide +kernel
theorem dX7_keeps_91 : decode cX7_keeps 91 = .ok (.aload_n 0, 1) := by decide +kernel
theorem dX7_keeps_92 : decode cX7_keeps 92 = .ok (.getfield 114, 3) := by decide +kernel
theorem dX7_keeps_95 : decode cX7_keeps 95 = .ok (.iload 5, 2) := by decide +kernel
theorem dX7_keeps_97 : decode cX7_keeps 97 = .ok (.iaload, 1) := by decide +kernel
theorem dX7_keeps_98 : decode cX7_keeps 98 = .ok (.iastore, 1) := by decide +kernel
theorem dX7_keeps_99 : decode cX7_keeps 99 = .ok (.aload_n 0, 1) := by decide +kernel
theorem dX7_keeps_100 : decode cX7_keeps 100 = .ok (.getfield 63, 3) := by decide +kernel
theorem dX7_keeps_103 : decode cX7_keeps 103 = .ok (.iload 5, 2) := by decide +kernel
theorem dX7_keeps_105 : decode cX7_keeps 105 = .ok (.aload_n 0, 1) := by decide +kernel
theorem dX7_keeps_106 : decode cX7_keeps 106 = .ok (.getfield 117, 3) := by decide +kernel
theorem dX7_keeps_109 : decode cX7_keeps 109 = .ok (.iload 5, 2) := by decide +kernel
theorem dX7_keeps_111 : decode cX7_keeps 111 = .ok (.laload, 1) := by decide +kernel
theorem dX7_keeps_112 : decode cX7_keeps 112 = .ok (.lastore, 1) := by decide +kernel
theorem dX7_keeps_113 : decode cX7_keeps 113 = .ok (.iinc 5 1, 3) := by decide +kernel
theorem dX7_keeps_116 : decode cX7_keeps 116 = .ok (.goto (-55), 3) := by decide +kernel
theorem dX7_keeps_119 : decode cX7_keeps 119 = .ok (.aload_n 0, 1) := by decide +kernel
theorem dX7_keeps_120 : decode cX7_keeps 120 = .ok (.getfield 66, 3) := by decide +kernel
theorem dX7_keeps_123 : decode cX7_keeps 123 = .ok (.iload_n 1, 1) := by decide +kernel
theorem dX7_keeps_124 : decode cX7_keeps 124 = .ok (.iload_n 2, 1) := by decide +kernel
theorem dX7_keeps_125 : decode cX7_keeps 125 = .ok (.iastore, 1) := by decide +kernel
theorem dX7_keeps_126 : decode cX7_keeps 126 = .ok (.aload_n 0, 1) := by decide +kernel
theorem dX7_keeps_127 : decode cX7_keeps 127 = .ok (.getfield 69, 3) := by decide +kernel
theorem dX7_keeps_130 : decode cX7_keeps 130 = .ok (.iload_n 1, 1) := by decide +kernel
theorem dX7_keeps_131 : decode cX7_keeps 131 = .ok (.iload_n 3, 1) := by decide +kernel
theorem dX7_keeps_132 : decode cX7_keeps 132 = .ok (.iastore, 1) := by decide +kernel
theorem dX7_keeps_133 : decode cX7_keeps 133 = .ok (.return_, 1) := by decide +kernel
set_option maxRecDepth 20000 in
theorem ggX7_laysKey_X7_ruleOf : GoodIn wsX7_laysKey wsX7_ruleOf := goodIn_r _ [10, 11, 12, 13, 14, 15, 16, 17, 18, 19, 20, 21, 22, 23, 24, 25, 26, 27, 28, 29, 30, 31, 32, 33, 34, 35, 36, 37, 38, 39, 40, 41, 42, 43, 44, 45, 46, 47, 48, 49, 50, 51, 52, 53, 54, 55, 56, 57, 58, 59, 60, 61, 62, 63, 64, 65, 66, 67] (by decide +kernel) (by decide +kernel)
set_option maxRecDepth 20000 in
theorem gX7_laysKey_X7_ruleOf : GoodIn wsX7_laysKey (wsV RX7 168 RX7 yX7_ruleOf wsX7_ruleOf) := goodIn_app (goodIn_of _ (by decide +kernel)) ggX7_laysKey_X7_ruleOf
theorem dX7_laysKey_0 : decode cX7_laysKey 0 = .ok (.aload_n 0, 1) := by decide +kernel
theorem dX7_laysKey_1 : decode cX7_laysKey 1 = .ok (.getfield 120, 3) := by decide +kernel
theorem dX7_laysKey_4 : decode cX7_laysKey 4 = .ok (.iconst 0, 1) := by decide +kernel
theorem dX7_laysKey_5 : decode cX7_laysKey 5 = .ok (.ldc2_w 238, 3) := by decide +kernel
theorem dX7_laysKey_8 : decode cX7_laysKey 8 = .ok (.aload_n 0, 1) := by decide +kernel
theorem dX7_laysKey_9 : decode cX7_laysKey 9 = .ok (.iload_n 1, 1) := by decide +kernel
theorem dX7_laysKey_10 : decode cX7_laysKey 10 = .ok (.iconst 2, 1) := by decide +kernel
theorem dX7_laysKey_11 : decode cX7_laysKey 11 = .ok (.idiv, 1) := by decide +kernel
theorem dX7_laysKey_12 : decode cX7_laysKey 12 = .ok (.invokevirtual 168, 3) := by decide +kernel
theorem dX7_laysKey_15 : decode cX7_laysKey 15 = .ok (.lmul, 1) := by decide +kernel
theorem dX7_laysKey_16 : decode cX7_laysKey 16 = .ok (.iload_n 1, 1) := by decide +kernel
theorem dX7_laysKey_17 : decode cX7_laysKey 17 = .ok (.iconst 2, 1) := by decide +kernel
theorem dX7_laysKey_18 : decode cX7_laysKey 18 = .ok (.irem, 1) := by decide +kernel
theorem dX7_laysKey_19 : decode cX7_laysKey 19 = .ok (.i2l, 1) := by decide +kernel
theorem dX7_laysKey_20 : decode cX7_laysKey 20 = .ok (.ladd, 1) := by decide +kernel
theorem dX7_laysKey_21 : decode cX7_laysKey 21 = .ok (.lastore, 1) := by decide +kernel
theorem dX7_laysKey_22 : decode cX7_laysKey 22 = .ok (.iconst 0, 1) := by decide +kernel
theorem dX7_laysKey_23 : decode cX7_laysKey 23 = .ok (.istore_n 2, 1) := by decide +kernel
theorem dX7_laysKey_24 : decode cX7_laysKey 24 = .ok (.iload_n 2, 1) := by decide +kernel
theorem dX7_laysKey_25 : decode cX7_laysKey 25 = .ok (.iconst 5, 1) := by decide +kernel
theorem dX7_laysKey_26 : decode cX7_laysKey 26 = .ok (.if_icmp .ge 43, 3) := by decide +kernel
theorem dX7_laysKey_29 : decode cX7_laysKey 29 = .ok (.aload_n 0, 1) := by decide +kernel
theorem dX7_laysKey_30 : decode cX7_laysKey 30 = .ok (.getfield 120, 3) := by decide +kernel
theorem dX7_laysKey_33 : decode cX7_laysKey 33 = .ok (.iload_n 2, 1) := by decide +kernel
theorem dX7_laysKey_34 : decode cX7_laysKey 34 = .ok (.iconst 1, 1) := by decide +kernel
theorem dX7_laysKey_35 : decode cX7_laysKey 35 = .ok (.iadd, 1) := by decide +kernel
theorem dX7_laysKey_36 : decode cX7_laysKey 36 = .ok (.iload_n 2, 1) := by decide +kernel
theorem dX7_laysKey_37 : decode cX7_laysKey 37 = .ok (.aload_n 0, 1) := by decide +kernel
theorem dX7_laysKey_38 : decode cX7_laysKey 38 = .ok (.getfield 108, 3) := by decide +kernel
theorem dX7_laysKey_41 : decode cX7_laysKey 41 = .ok (.iload_n 1, 1) := by decide +kernel
theorem dX7_laysKey_42 : decode cX7_laysKey 42 = .ok (.iaload, 1) := by decide +kernel
theorem dX7_laysKey_43 : decode cX7_laysKey 43 = .ok (.if_icmp .ge 16, 3) := by decide +kernel
theorem dX7_laysKey_46 : decode cX7_laysKey 46 = .ok (.aload_n 0, 1) := by decide +kernel
theorem dX7_laysKey_47 : decode cX7_laysKey 47 = .ok (.getfield 117, 3) := by decide +kernel
theorem dX7_laysKey_50 : decode cX7_laysKey 50 = .ok (.iconst 5, 1) := by decide +kernel
theorem dX7_laysKey_51 : decode cX7_laysKey 51 = .ok (.iload_n 1, 1) := by decide +kernel
theorem dX7_laysKey_52 : decode cX7_laysKey 52 = .ok (.imul, 1) := by decide +kernel
theorem dX7_laysKey_53 : decode cX7_laysKey 53 = .ok (.iload_n 2, 1) := by decide +kernel
theorem dX7_laysKey_54 : decode cX7_laysKey 54 = .ok (.iadd, 1) := by decide +kernel
theorem dX7_laysKey_55 : decode cX7_laysKey 55 = .ok (.laload, 1) := by decide +kernel
theorem dX7_laysKey_56 : decode cX7_laysKey 56 = .ok (.goto 6, 3) := by decide +kernel
theorem dX7_laysKey_59 : decode cX7_laysKey 59 = .ok (.ldc2_w 240, 3) := by decide +kernel
theorem dX7_laysKey_62 : decode cX7_laysKey 62 = .ok (.lastore, 1) := by decide +kernel
theorem dX7_laysKey_63 : decode cX7_laysKey 63 = .ok (.iinc 2 1, 3) := by decide +kernel
theorem dX7_laysKey_66 : decode cX7_laysKey 66 = .ok (.goto (-42), 3) := by decide +kernel
theorem dX7_laysKey_69 : decode cX7_laysKey 69 = .ok (.return_, 1) := by decide +kernel
theorem dX7_entryOf_0 : decode cX7_entryOf 0 = .ok (.iconst 0, 1) := by decide +kernel
theorem dX7_entryOf_1 : decode cX7_entryOf 1 = .ok (.istore_n 1, 1) := by decide +kernel
theorem dX7_entryOf_2 : decode cX7_entryOf 2 = .ok (.iload_n 1, 1) := by decide +kernel
theorem dX7_entryOf_3 : decode cX7_entryOf 3 = .ok (.aload_n 0, 1) := by decide +kernel
theorem dX7_entryOf_4 : decode cX7_entryOf 4 = .ok (.getfield 154, 3) := by decide +kernel
theorem dX7_entryOf_7 : decode cX7_entryOf 7 = .ok (.if_icmp .ge 62, 3) := by decide +kernel
theorem dX7_entryOf_10 : decode cX7_entryOf 10 = .ok (.iconst 1, 1) := by decide +kernel
theorem dX7_entryOf_11 : decode cX7_entryOf 11 = .ok (.istore_n 2, 1) := by decide +kernel
theorem dX7_entryOf_12 : decode cX7_entryOf 12 = .ok (.iconst 0, 1) := by decide +kernel
theorem dX7_entryOf_13 : decode cX7_entryOf 13 = .ok (.istore_n 3, 1) := by decide +kernel
theorem dX7_entryOf_14 : decode cX7_entryOf 14 = .ok (.iload_n 3, 1) := by decide +kernel
theorem dX7_entryOf_15 : decode cX7_entryOf 15 = .ok (.bipush 6, 2) := by decide +kernel
theorem dX7_entryOf_17 : decode cX7_entryOf 17 = .ok (.if_icmp .ge 40, 3) := by decide +kernel
theorem dX7_entryOf_20 : decode cX7_entryOf 20 = .ok (.iload_n 2, 1) := by decide +kernel
theorem dX7_entryOf_21 : decode cX7_entryOf 21 = .ok (.ifCond .eq 36, 3) := by decide +kernel
theorem dX7_entryOf_24 : decode cX7_entryOf 24 = .ok (.aload_n 0, 1) := by decide +kernel
theorem dX7_entryOf_25 : decode cX7_entryOf 25 = .ok (.getfield 75, 3) := by decide +kernel
theorem dX7_entryOf_28 : decode cX7_entryOf 28 = .ok (.bipush 6, 2) := by decide +kernel
theorem dX7_entryOf_30 : decode cX7_entryOf 30 = .ok (.iload_n 1, 1) := by decide +kernel
theorem dX7_entryOf_31 : decode cX7_entryOf 31 = .ok (.imul, 1) := by decide +kernel
theorem dX7_entryOf_32 : decode cX7_entryOf 32 = .ok (.iload_n 3, 1) := by decide +kernel
theorem dX7_entryOf_33 : decode cX7_entryOf 33 = .ok (.iadd, 1) := by decide +kernel
theorem dX7_entryOf_34 : decode cX7_entryOf 34 = .ok (.laload, 1) := by decide +kernel
theorem dX7_entryOf_35 : decode cX7_entryOf 35 = .ok (.aload_n 0, 1) := by decide +kernel
theorem dX7_entryOf_36 : decode cX7_entryOf 36 = .ok (.getfield 120, 3) := by decide +kernel
theorem dX7_entryOf_39 : decode cX7_entryOf 39 = .ok (.iload_n 3, 1) := by decide +kernel
theorem dX7_entryOf_40 : decode cX7_entryOf 40 = .ok (.laload, 1) := by decide +kernel
theorem dX7_entryOf_41 : decode cX7_entryOf 41 = .ok (.lcmp, 1) := by decide +kernel
theorem dX7_entryOf_42 : decode cX7_entryOf 42 = .ok (.ifCond .ne 7, 3) := by decide +kernel
theorem dX7_entryOf_45 : decode cX7_entryOf 45 = .ok (.iconst 1, 1) := by decide +kernel
theorem dX7_entryOf_46 : decode cX7_entryOf 46 = .ok (.goto 4, 3) := by decide +kernel
theorem dX7_entryOf_49 : decode cX7_entryOf 49 = .ok (.iconst 0, 1) := by decide +kernel
theorem dX7_entryOf_50 : decode cX7_entryOf 50 = .ok (.istore_n 2, 1) := by decide +kernel
theorem dX7_entryOf_51 : decode cX7_entryOf 51 = .ok (.iinc 3 1, 3) := by decide +kernel
theorem dX7_entryOf_54 : decode cX7_entryOf 54 = .ok (.goto (-40), 3) := by decide +kernel
theorem dX7_entryOf_57 : decode cX7_entryOf 57 = .ok (.iload_n 2, 1) := by decide +kernel
theorem dX7_entryOf_58 : decode cX7_entryOf 58 = .ok (.ifCond .eq 5, 3) := by decide +kernel
theorem dX7_entryOf_61 : decode cX7_entryOf 61 = .ok (.iload_n 1, 1) := by decide +kernel
theorem dX7_entryOf_62 : decode cX7_entryOf 62 = .ok (.ireturn, 1) := by decide +kernel
theorem dX7_entryOf_63 : decode cX7_entryOf 63 = .ok (.iinc 1 1, 3) := by decide +kernel
theorem dX7_entryOf_66 : decode cX7_entryOf 66 = .ok (.goto (-64), 3) := by decide +kernel
theorem dX7_entryOf_69 : decode cX7_entryOf 69 = .ok (.iconst (-1), 1) := by decide +kernel
theorem dX7_entryOf_70 : decode cX7_entryOf 70 = .ok (.ireturn, 1) := by decide +kernel
theorem dX7_drops_0 : decode cX7_drops 0 = .ok (.aload_n 0, 1) := by decide +kernel
theorem dX7_drops_1 : decode cX7_drops 1 = .ok (.dup, 1) := by decide +kernel
theorem dX7_drops_2 : decode cX7_drops 2 = .ok (.getfield 154, 3) := by decide +kernel
theorem dX7_drops_5 : decode cX7_drops 5 = .ok (.iconst 1, 1) := by decide +kernel
theorem dX7_drops_6 : decode cX7_drops 6 = .ok (.isub, 1) := by decide +kernel
theorem dX7_drops_7 : decode cX7_drops 7 = .ok (.putfield 154, 3) := by decide +kernel
theorem dX7_drops_10 : decode cX7_drops 10 = .ok (.bipush 6, 2) := by decide +kernel
theorem dX7_drops_12 : decode cX7_drops 12 = .ok (.iload_n 1, 1) := by decide +kernel
theorem dX7_drops_13 : decode cX7_drops 13 = .ok (.imul, 1) := by decide +kernel
theorem dX7_drops_14 : decode cX7_drops 14 = .ok (.istore_n 2, 1) := by decide +kernel
theorem dX7_drops_15 : decode cX7_drops 15 = .ok (.iload_n 2, 1) := by decide +kernel
theorem dX7_drops_16 : decode cX7_drops 16 = .ok (.bipush 6, 2) := by decide +kernel
theorem dX7_drops_18 : decode cX7_drops 18 = .ok (.aload_n 0, 1) := by decide +kernel
theorem dX7_drops_19 : decode cX7_drops 19 = .ok (.getfield 154, 3) := by decide +kernel
theorem dX7_drops_22 : decode cX7_drops 22 = .ok (.imul, 1) := by decide +kernel
theorem dX7_drops_23 : decode cX7_drops 23 = .ok (.if_icmp .ge 24, 3) := by decide +kernel
theorem dX7_drops_26 : decode cX7_drops 26 = .ok (.aload_n 0, 1) := by decide +kernel
theorem dX7_drops_27 : decode cX7_drops 27 = .ok (.getfield 75, 3) := by decide +kernel
theorem dX7_drops_30 : decode cX7_drops 30 = .ok (.iload_n 2, 1) := by decide +kernel
theorem dX7_drops_31 : decode cX7_drops 31 = .ok (.aload_n 0, 1) := by decide +kernel
theorem dX7_drops_32 : decode cX7_drops 32 = .ok (.getfield 75, 3) := by decide +kernel
theorem dX7_drops_35 : decode cX7_drops 35 = .ok (.iload_n 2, 1) := by decide +kernel
theorem dX7_drops_36 : decode cX7_drops 36 = .ok (.bipush 6, 2) := by decide +kernel
theorem dX7_drops_38 : decode cX7_drops 38 = .ok (.iadd, 1) := by decide +kernel
theorem dX7_drops_39 : decode cX7_drops 39 = .ok (.laload, 1) := by decide +kernel
theorem dX7_drops_40 : decode cX7_drops 40 = .ok (.lastore, 1) := by decide +kernel
theorem dX7_drops_41 : decode cX7_drops 41 = .ok (.iinc 2 1, 3) := by decide +kernel
theorem dX7_drops_44 : decode cX7_drops 44 = .ok (.goto (-29), 3) := by decide +kernel
theorem dX7_drops_47 : decode cX7_drops 47 = .ok (.iload_n 1, 1) := by decide +kernel
theorem dX7_drops_48 : decode cX7_drops 48 = .ok (.istore_n 2, 1) := by decide +kernel
theorem dX7_drops_49 : decode cX7_drops 49 = .ok (.iload_n 2, 1) := by decide +kernel
theorem dX7_drops_50 : decode cX7_drops 50 = .ok (.aload_n 0, 1) := by decide +kernel
theorem dX7_drops_51 : decode cX7_drops 51 = .ok (.getfield 154, 3) := by decide +kernel
theorem dX7_drops_54 : decode cX7_drops 54 = .ok (.if_icmp .ge 37, 3) := by decide +kernel
theorem dX7_drops_57 : decode cX7_drops 57 = .ok (.aload_n 0, 1) := by decide +kernel
theorem dX7_drops_58 : decode cX7_drops 58 = .ok (.getfield 78, 3) := by decide +kernel
theorem dX7_drops_61 : decode cX7_drops 61 = .ok (.iload_n 2, 1) := by decide +kernel
theorem dX7_drops_62 : decode cX7_drops 62 = .ok (.aload_n 0, 1) := by decide +kernel
theorem dX7_drops_63 : decode cX7_drops 63 = .ok (.getfield 78, 3) := by decide +kernel
theorem dX7_drops_66 : decode cX7_drops 66 = .ok (.iload_n 2, 1) := by decide +kernel
theorem dX7_drops_67 : decode cX7_drops 67 = .ok (.iconst 1, 1) := by decide +kernel
theorem dX7_drops_68 : decode cX7_drops 68 = .ok (.iadd, 1) := by decide +kernel
theorem dX7_drops_69 : decode cX7_drops 69 = .ok (.iaload, 1) := by decide +kernel
theorem dX7_drops_70 : decode cX7_drops 70 = .ok (.iastore, 1) := by decide +kernel
theorem dX7_drops_71 : decode cX7_drops 71 = .ok (.aload_n 0, 1) := by decide +kernel
theorem dX7_drops_72 : decode cX7_drops 72 = .ok (.getfield 81, 3) := by decide +kernel
theorem dX7_drops_75 : decode cX7_drops 75 = .ok (.iload_n 2, 1) := by decide +kernel
theorem dX7_drops_76 : decode cX7_drops 76 = .ok (.aload_n 0, 1) := by decide +kernel
theorem dX7_drops_77 : decode cX7_drops 77 = .ok (.getfield 81, 3) := by decide +kernel
theorem dX7_drops_80 : decode cX7_drops 80 = .ok (.iload_n 2, 1) := by decide +kernel
theorem dX7_drops_81 : decode cX7_drops 81 = .ok (.iconst 1, 1) := by decide +kernel
theorem dX7_drops_82 : decode cX7_drops 82 = .ok (.iadd, 1) := by decide +kernel
theorem dX7_drops_83 : decode cX7_drops 83 = .ok (.iaload, 1) := by decide +kernel
theorem dX7_drops_84 : decode cX7_drops 84 = .ok (.iastore, 1) := by decide +kernel
theorem dX7_drops_85 : decode cX7_drops 85 = .ok (.iinc 2 1, 3) := by decide +kernel
theorem dX7_drops_88 : decode cX7_drops 88 = .ok (.goto (-39), 3) := by decide +kernel
theorem dX7_drops_91 : decode cX7_drops 91 = .ok (.return_, 1) := by decide +kernel
set_option maxRecDepth 20000 in
theorem ggX7_looks_X7_pushes : GoodIn wsX7_looks wsX7_pushes := goodIn_r _ [10, 3, 2, 1, 11, 12, 13, 14, 15, 16, 17, 18, 4, 19, 20, 21, 22, 23, 9, 24, 25, 26, 27, 28, 29, 30, 31, 32, 127, 128, 129, 130, 131, 132, 133, 134, 135, 136, 137, 138, 139, 140, 141, 142, 143, 144, 145, 146, 147, 148, 149, 150, 151, 152, 153, 154, 155, 156, 157, 158, 159, 160, 161, 162, 163, 164, 165, 166, 167, 168, 169, 170, 171, 172, 173, 174] (by decide +kernel) (by decide +kernel)
set_option maxRecDepth 20000 in
theorem gX7_looks_X7_pushes : GoodIn wsX7_looks (wsV RX7 186 RX7 yX7_pushes wsX7_pushes) := goodIn_app (goodIn_of _ (by decide +kernel)) ggX7_looks_X7_pushes
set_option maxRecDepth 20000 in
theorem ggX7_looks_X7_comparesOne : GoodIn wsX7_looks wsX7_comparesOne := goodIn_r _ [36, 13, 37, 11, 38, 39, 31, 40, 32, 41, 42, 1, 5, 20, 4, 43, 44, 45, 9, 46, 47, 2, 19, 14, 48, 49, 50, 51, 52, 53, 54, 55, 6, 7, 8, 10, 3, 12, 15, 16, 17, 18, 21, 22, 23, 24, 25, 26, 27, 28, 29, 30, 127, 128, 129, 130, 131, 132, 133, 134, 135, 136, 137, 138, 139, 140, 141, 142, 143, 144, 145, 146, 147, 148, 149, 150, 151, 152, 153, 154, 155, 156, 157, 158, 159, 160, 161, 162, 163, 164, 165, 166, 167, 168, 169, 170, 171, 172, 173, 174] (by decide +kernel) (by decide +kernel)
set_option maxRecDepth 20000 in
theorem gX7_looks_X7_comparesOne : GoodIn wsX7_looks (wsV RX7 242 RX7 yX7_comparesOne wsX7_comparesOne) := goodIn_app (goodIn_of _ (by decide +kernel)) ggX7_looks_X7_comparesOne
set_option maxRecDepth 20000 in
theorem ggX7_looks_X7_readsOne : GoodIn wsX7_looks wsX7_readsOne := goodIn_r _ [59, 15, 13, 30, 31, 32, 1, 5, 41, 43, 44, 45, 9, 46, 47, 2, 19, 14, 60, 61, 62, 63, 12, 26, 64, 28, 65, 11, 66, 67, 68, 69, 70, 71, 72, 73, 74, 75, 76, 77, 78, 79, 80, 81, 82, 83, 84, 85, 86, 87, 88, 89, 90, 91, 92, 93, 21, 22, 23, 24, 25, 27, 29, 94, 95, 96, 97, 98, 99, 100, 101, 102, 103, 104, 105, 106, 107, 108, 16, 17, 18, 37, 39, 40, 42, 38, 109, 110, 111, 112, 113, 114, 115, 116, 117, 118, 119, 120, 121, 122, 123, 124, 125, 126, 53, 54, 55, 6, 7, 8, 10, 3, 4, 20, 48, 49, 50, 51, 52, 127, 128, 129, 130, 131, 132, 133, 134, 135, 136, 137, 138, 139, 140, 141, 142, 143, 144, 145, 146, 147, 148, 149, 150, 151, 152, 153, 154, 155, 156, 157, 158, 159, 160, 161, 162, 163, 164, 165, 166, 167, 168, 169, 170, 171, 172, 173, 174] (by decide +kernel) (by decide +kernel)
set_option maxRecDepth 20000 in
theorem gX7_looks_X7_readsOne : GoodIn wsX7_looks (wsV RX7 245 RX7 yX7_readsOne wsX7_readsOne) := goodIn_app (goodIn_of _ (by decide +kernel)) ggX7_looks_X7_readsOne
theorem dX7_looks_0 : decode cX7_looks 0 = .ok (.iconst 0, 1) := by decide +kernel
theorem dX7_looks_1 : decode cX7_looks 1 = .ok (.istore_n 2, 1) := by decide +kernel
theorem dX7_looks_2 : decode cX7_looks 2 = .ok (.iload_n 2, 1) := by decide +kernel
theorem dX7_looks_3 : decode cX7_looks 3 = .ok (.bipush 32, 2) := by decide +kernel
theorem dX7_looks_5 : decode cX7_looks 5 = .ok (.if_icmp .ge 16, 3) := by decide +kernel
theorem dX7_looks_8 : decode cX7_looks 8 = .ok (.aload_n 0, 1) := by decide +kernel
theorem dX7_looks_9 : decode cX7_looks 9 = .ok (.getfield 84, 3) := by decide +kernel
theorem dX7_looks_12 : decode cX7_looks 12 = .ok (.iload_n 2, 1) := by decide +kernel
theorem dX7_looks_13 : decode cX7_looks 13 = .ok (.iconst 0, 1) := by decide +kernel
theorem dX7_looks_14 : decode cX7_looks 14 = .ok (.iastore, 1) := by decide +kernel
theorem dX7_looks_15 : decode cX7_looks 15 = .ok (.iinc 2 1, 3) := by decide +kernel
theorem dX7_looks_18 : decode cX7_looks 18 = .ok (.goto (-16), 3) := by decide +kernel
theorem dX7_looks_21 : decode cX7_looks 21 = .ok (.aload_n 0, 1) := by decide +kernel
theorem dX7_looks_22 : decode cX7_looks 22 = .ok (.iconst 0, 1) := by decide +kernel
theorem dX7_looks_23 : decode cX7_looks 23 = .ok (.putfield 165, 3) := by decide +kernel
theorem dX7_looks_26 : decode cX7_looks 26 = .ok (.aload_n 0, 1) := by decide +kernel
theorem dX7_looks_27 : decode cX7_looks 27 = .ok (.iload_n 1, 1) := by decide +kernel
theorem dX7_looks_28 : decode cX7_looks 28 = .ok (.invokevirtual 186, 3) := by decide +kernel
theorem dX7_looks_31 : decode cX7_looks 31 = .ok (.aload_n 0, 1) := by decide +kernel
theorem dX7_looks_32 : decode cX7_looks 32 = .ok (.getfield 165, 3) := by decide +kernel
theorem dX7_looks_35 : decode cX7_looks 35 = .ok (.ifCond .le 40, 3) := by decide +kernel
theorem dX7_looks_38 : decode cX7_looks 38 = .ok (.aload_n 0, 1) := by decide +kernel
theorem dX7_looks_39 : decode cX7_looks 39 = .ok (.getfield 99, 3) := by decide +kernel
theorem dX7_looks_42 : decode cX7_looks 42 = .ok (.aload_n 0, 1) := by decide +kernel
theorem dX7_looks_43 : decode cX7_looks 43 = .ok (.getfield 165, 3) := by decide +kernel
theorem dX7_looks_46 : decode cX7_looks 46 = .ok (.iconst 1, 1) := by decide +kernel
theorem dX7_looks_47 : decode cX7_looks 47 = .ok (.isub, 1) := by decide +kernel
theorem dX7_looks_48 : decode cX7_looks 48 = .ok (.iaload, 1) := by decide +kernel
theorem dX7_looks_49 : decode cX7_looks 49 = .ok (.istore_n 2, 1) := by decide +kernel
theorem dX7_looks_50 : decode cX7_looks 50 = .ok (.aload_n 0, 1) := by decide +kernel
theorem dX7_looks_51 : decode cX7_looks 51 = .ok (.getfield 102, 3) := by decide +kernel
theorem dX7_looks_54 : decode cX7_looks 54 = .ok (.iload_n 2, 1) := by decide +kernel
theorem dX7_looks_55 : decode cX7_looks 55 = .ok (.baload, 1) := by decide +kernel
theorem dX7_looks_56 : decode cX7_looks 56 = .ok (.ifCond .eq 11, 3) := by decide +kernel
theorem dX7_looks_59 : decode cX7_looks 59 = .ok (.aload_n 0, 1) := by decide +kernel
theorem dX7_looks_60 : decode cX7_looks 60 = .ok (.iload_n 2, 1) := by decide +kernel
theorem dX7_looks_61 : decode cX7_looks 61 = .ok (.invokevirtual 242, 3) := by decide +kernel
theorem dX7_looks_64 : decode cX7_looks 64 = .ok (.goto 8, 3) := by decide +kernel
theorem dX7_looks_67 : decode cX7_looks 67 = .ok (.aload_n 0, 1) := by decide +kernel
theorem dX7_looks_68 : decode cX7_looks 68 = .ok (.iload_n 2, 1) := by decide +kernel
