set_option maxRecDepth 20000 in
theorem ggL_isRead_X4_wipe : GoodIn wsL_isRead wsX4_wipe := goodIn_r _ [6, 7, 8, 204, 205, 206, 207, 208, 209, 210, 211, 212] (by decide +kernel) (by decide +kernel)
set_option maxRecDepth 20000 in
theorem gL_isRead_X4_wipe : GoodIn wsL_isRead (wsV RL 15 RX4 yX4_wipe wsX4_wipe) := goodIn_app (goodIn_of _ (by decide +kernel)) ggL_isRead_X4_wipe
set_option maxRecDepth 20000 in
theorem ggL_isRead_L_up : GoodIn wsL_isRead wsL_up := goodIn_r _ [12, 13] (by decide +kernel) (by decide +kernel)
set_option maxRecDepth 20000 in
theorem gL_isRead_L_up : GoodIn wsL_isRead (va_wsS RL 19 yL_up wsL_up) := goodIn_app (goodIn_of _ (by decide +kernel)) ggL_isRead_L_up
set_option maxRecDepth 20000 in
theorem ggL_isRead_X4_count : GoodIn wsL_isRead wsX4_count := goodIn_r _ [17, 18, 19, 20, 21, 22, 23, 24, 25, 26, 27, 7, 8, 28, 29, 30, 31, 32, 33, 34, 35, 36, 37, 38, 39, 40, 41, 42, 43, 44, 45, 46, 47, 48, 49, 5, 50, 51, 52, 53, 54, 55, 56, 57, 58, 59, 60, 61, 62, 63, 64, 65, 66, 67, 68, 69, 70, 71, 72, 73, 74, 75, 76, 77, 78, 79, 80, 81, 82, 83, 84, 85, 86, 87, 88, 89, 90, 91, 92, 93, 94, 95, 96, 97, 98, 99, 100, 101, 102, 103, 104, 105, 106, 107, 108, 109, 110, 111, 112, 113, 114, 115, 116, 117, 118, 119, 120, 121, 122, 123, 124, 125, 126, 127, 128, 129, 130, 131, 132, 133, 134, 135, 136, 137, 138, 139, 140, 204, 205, 206, 207, 208, 209, 210, 213, 214, 215, 216, 217, 218, 219, 220, 221, 222, 223, 224, 225, 226, 227, 211, 212, 228, 229, 230] (by decide +kernel) (by decide +kernel)
set_option maxRecDepth 20000 in
theorem gL_isRead_X4_count : GoodIn wsL_isRead (wsV RL 25 RX4 yX4_count wsX4_count) := goodIn_app (goodIn_of _ (by decide +kernel)) ggL_isRead_X4_count
set_option maxRecDepth 20000 in
theorem ggL_isRead_X4_put : GoodIn wsL_isRead wsX4_put := goodIn_r _ [144, 7, 8, 145, 146, 5, 147, 148, 149, 150, 151, 152, 153, 154, 155, 156, 204, 205, 206, 207, 208, 209, 210, 211, 212] (by decide +kernel) (by decide +kernel)
set_option maxRecDepth 20000 in
theorem gL_isRead_X4_put : GoodIn wsL_isRead (wsV RL 9 RX4 yX4_put wsX4_put) := goodIn_app (goodIn_of _ (by decide +kernel)) ggL_isRead_X4_put
set_option maxRecDepth 20000 in
theorem ggL_isRead_L_digit : GoodIn wsL_isRead wsL_digit := goodIn_r _ [159, 141, 142, 143, 5, 144, 7, 8, 145, 146, 147, 148, 149, 150, 151, 152, 153, 154, 155, 156, 204, 205, 206, 207, 208, 209, 210, 211, 212] (by decide +kernel) (by decide +kernel)
set_option maxRecDepth 20000 in
theorem gL_isRead_L_digit : GoodIn wsL_isRead (va_wsS RL 31 yL_digit wsL_digit) := goodIn_app (goodIn_of _ (by decide +kernel)) ggL_isRead_L_digit
set_option maxRecDepth 20000 in
theorem ggL_isRead_X4_read : GoodIn wsL_isRead wsX4_read := goodIn_r _ [163, 7, 28, 18, 8, 164, 165, 5, 166, 167, 168, 169, 152, 170, 154, 155, 171, 172, 173, 174, 175, 176, 177, 178, 179, 180, 181, 182, 183, 184, 185, 186, 187, 188, 45, 189, 190, 191, 192, 193, 194, 47, 195, 140, 48, 196, 197, 198, 199, 200, 201, 202, 203, 49, 50, 204, 205, 206, 207, 208, 209, 210, 211, 212, 228, 229, 230, 213, 214, 215, 216, 217] (by decide +kernel) (by decide +kernel)
set_option maxRecDepth 20000 in
theorem gL_isRead_X4_read : GoodIn wsL_isRead (wsV RL 35 RX4 yX4_read wsX4_read) := goodIn_app (goodIn_of _ (by decide +kernel)) ggL_isRead_X4_read
theorem dL_isRead_0 : decode cL_isRead 0 = .ok (.aload_n 0, 1) := by decide +kernel
theorem dL_isRead_1 : decode cL_isRead 1 = .ok (.invokevirtual 15, 3) := by decide +kernel
theorem dL_isRead_4 : decode cL_isRead 4 = .ok (.ifCond .lt 14, 3) := by decide +kernel
theorem dL_isRead_7 : decode cL_isRead 7 = .ok (.aload_n 1, 1) := by decide +kernel
theorem dL_isRead_8 : decode cL_isRead 8 = .ok (.invokevirtual 15, 3) := by decide +kernel
theorem dL_isRead_11 : decode cL_isRead 11 = .ok (.ifCond .lt 7, 3) := by decide +kernel
theorem dL_isRead_14 : decode cL_isRead 14 = .ok (.iconst 1, 1) := by decide +kernel
theorem dL_isRead_15 : decode cL_isRead 15 = .ok (.goto 4, 3) := by decide +kernel
theorem dL_isRead_18 : decode cL_isRead 18 = .ok (.iconst 0, 1) := by decide +kernel
theorem dL_isRead_19 : decode cL_isRead 19 = .ok (.istore 6, 2) := by decide +kernel
theorem dL_isRead_21 : decode cL_isRead 21 = .ok (.iconst 0, 1) := by decide +kernel
theorem dL_isRead_22 : decode cL_isRead 22 = .ok (.istore 7, 2) := by decide +kernel
theorem dL_isRead_24 : decode cL_isRead 24 = .ok (.iconst 0, 1) := by decide +kernel
theorem dL_isRead_25 : decode cL_isRead 25 = .ok (.istore 8, 2) := by decide +kernel
theorem dL_isRead_27 : decode cL_isRead 27 = .ok (.iload 8, 2) := by decide +kernel
theorem dL_isRead_29 : decode cL_isRead 29 = .ok (.bipush 16, 2) := by decide +kernel
theorem dL_isRead_31 : decode cL_isRead 31 = .ok (.if_icmp .ge 192, 3) := by decide +kernel
theorem dL_isRead_34 : decode cL_isRead 34 = .ok (.iload 8, 2) := by decide +kernel
theorem dL_isRead_36 : decode cL_isRead 36 = .ok (.bipush 8, 2) := by decide +kernel
theorem dL_isRead_38 : decode cL_isRead 38 = .ok (.if_icmp .ge 8, 3) := by decide +kernel
theorem dL_isRead_41 : decode cL_isRead 41 = .ok (.iload 8, 2) := by decide +kernel
theorem dL_isRead_43 : decode cL_isRead 43 = .ok (.goto 8, 3) := by decide +kernel
theorem dL_isRead_46 : decode cL_isRead 46 = .ok (.bipush 15, 2) := by decide +kernel
theorem dL_isRead_48 : decode cL_isRead 48 = .ok (.iload 8, 2) := by decide +kernel
theorem dL_isRead_50 : decode cL_isRead 50 = .ok (.isub, 1) := by decide +kernel
theorem dL_isRead_51 : decode cL_isRead 51 = .ok (.istore 9, 2) := by decide +kernel
theorem dL_isRead_53 : decode cL_isRead 53 = .ok (.iload 4, 2) := by decide +kernel
theorem dL_isRead_55 : decode cL_isRead 55 = .ok (.iload 9, 2) := by decide +kernel
theorem dL_isRead_57 : decode cL_isRead 57 = .ok (.ishr, 1) := by decide +kernel
theorem dL_isRead_58 : decode cL_isRead 58 = .ok (.iload 5, 2) := by decide +kernel
theorem dL_isRead_60 : decode cL_isRead 60 = .ok (.iconst 2, 1) := by decide +kernel
theorem dL_isRead_61 : decode cL_isRead 61 = .ok (.iload 9, 2) := by decide +kernel
theorem dL_isRead_63 : decode cL_isRead 63 = .ok (.imul, 1) := by decide +kernel
theorem dL_isRead_64 : decode cL_isRead 64 = .ok (.ishr, 1) := by decide +kernel
theorem dL_isRead_65 : decode cL_isRead 65 = .ok (.ixor, 1) := by decide +kernel
theorem dL_isRead_66 : decode cL_isRead 66 = .ok (.istore 10, 2) := by decide +kernel
theorem dL_isRead_68 : decode cL_isRead 68 = .ok (.iload 8, 2) := by decide +kernel
theorem dL_isRead_70 : decode cL_isRead 70 = .ok (.bipush 8, 2) := by decide +kernel
theorem dL_isRead_72 : decode cL_isRead 72 = .ok (.if_icmp .ge 7, 3) := by decide +kernel
theorem dL_isRead_75 : decode cL_isRead 75 = .ok (.aload_n 0, 1) := by decide +kernel
theorem dL_isRead_76 : decode cL_isRead 76 = .ok (.goto 4, 3) := by decide +kernel
theorem dL_isRead_79 : decode cL_isRead 79 = .ok (.aload_n 1, 1) := by decide +kernel
theorem dL_isRead_80 : decode cL_isRead 80 = .ok (.astore 11, 2) := by decide +kernel
theorem dL_isRead_82 : decode cL_isRead 82 = .ok (.iload 10, 2) := by decide +kernel
theorem dL_isRead_84 : decode cL_isRead 84 = .ok (.iconst 3, 1) := by decide +kernel
theorem dL_isRead_85 : decode cL_isRead 85 = .ok (.invokestatic 19, 3) := by decide +kernel
theorem dL_isRead_88 : decode cL_isRead 88 = .ok (.ifCond .ne 12, 3) := by decide +kernel
theorem dL_isRead_91 : decode cL_isRead 91 = .ok (.aload_n 0, 1) := by decide +kernel
theorem dL_isRead_92 : decode cL_isRead 92 = .ok (.bipush 6, 2) := by decide +kernel
theorem dL_isRead_94 : decode cL_isRead 94 = .ok (.invokevirtual 25, 3) := by decide +kernel
theorem dL_isRead_97 : decode cL_isRead 97 = .ok (.goto 13, 3) := by decide +kernel
theorem dL_isRead_100 : decode cL_isRead 100 = .ok (.iload 10, 2) := by decide +kernel
theorem dL_isRead_102 : decode cL_isRead 102 = .ok (.iconst 2, 1) := by decide +kernel
theorem dL_isRead_103 : decode cL_isRead 103 = .ok (.ishr, 1) := by decide +kernel
theorem dL_isRead_104 : decode cL_isRead 104 = .ok (.sipush 4096, 3) := by decide +kernel
theorem dL_isRead_107 : decode cL_isRead 107 = .ok (.invokestatic 19, 3) := by decide +kernel
theorem dL_isRead_110 : decode cL_isRead 110 = .ok (.istore 12, 2) := by decide +kernel
theorem dL_isRead_112 : decode cL_isRead 112 = .ok (.iload 10, 2) := by decide +kernel
theorem dL_isRead_114 : decode cL_isRead 114 = .ok (.iconst 5, 1) := by decide +kernel
theorem dL_isRead_115 : decode cL_isRead 115 = .ok (.invokestatic 19, 3) := by decide +kernel
theorem dL_isRead_118 : decode cL_isRead 118 = .ok (.ifCond .ne 7, 3) := by decide +kernel
theorem dL_isRead_121 : decode cL_isRead 121 = .ok (.iconst 1, 1) := by decide +kernel
theorem dL_isRead_122 : decode cL_isRead 122 = .ok (.goto 4, 3) := by decide +kernel
theorem dL_isRead_125 : decode cL_isRead 125 = .ok (.iconst 0, 1) := by decide +kernel
theorem dL_isRead_126 : decode cL_isRead 126 = .ok (.istore 13, 2) := by decide +kernel
theorem dL_isRead_128 : decode cL_isRead 128 = .ok (.iload 7, 2) := by decide +kernel
theorem dL_isRead_130 : decode cL_isRead 130 = .ok (.iload 13, 2) := by decide +kernel
theorem dL_isRead_132 : decode cL_isRead 132 = .ok (.ifCond .eq 7, 3) := by decide +kernel
theorem dL_isRead_135 : decode cL_isRead 135 = .ok (.iconst 1, 1) := by decide +kernel
theorem dL_isRead_136 : decode cL_isRead 136 = .ok (.goto 4, 3) := by decide +kernel
theorem dL_isRead_139 : decode cL_isRead 139 = .ok (.iconst 0, 1) := by decide +kernel
theorem dL_isRead_140 : decode cL_isRead 140 = .ok (.iadd, 1) := by decide +kernel
theorem dL_isRead_141 : decode cL_isRead 141 = .ok (.istore 7, 2) := by decide +kernel
theorem dL_isRead_143 : decode cL_isRead 143 = .ok (.iload 6, 2) := by decide +kernel
theorem dL_isRead_145 : decode cL_isRead 145 = .ok (.ifCond .eq 69, 3) := by decide +kernel
theorem dL_isRead_148 : decode cL_isRead 148 = .ok (.iload 13, 2) := by decide +kernel
theorem dL_isRead_150 : decode cL_isRead 150 = .ok (.ifCond .eq 17, 3) := by decide +kernel
theorem dL_isRead_153 : decode cL_isRead 153 = .ok (.aload 11, 2) := by decide +kernel
theorem dL_isRead_155 : decode cL_isRead 155 = .ok (.ldc2_w 29, 3) := by decide +kernel
theorem dL_isRead_158 : decode cL_isRead 158 = .ok (.invokevirtual 9, 3) := by decide +kernel
theorem dL_isRead_161 : decode cL_isRead 161 = .ok (.ifCond .le 53, 3) := by decide +kernel
theorem dL_isRead_164 : decode cL_isRead 164 = .ok (.goto 46, 3) := by decide +kernel
theorem dL_isRead_167 : decode cL_isRead 167 = .ok (.aload 11, 2) := by decide +kernel
theorem dL_isRead_169 : decode cL_isRead 169 = .ok (.iload 12, 2) := by decide +kernel
theorem dL_isRead_171 : decode cL_isRead 171 = .ok (.sipush 256, 3) := by decide +kernel
theorem dL_isRead_174 : decode cL_isRead 174 = .ok (.idiv, 1) := by decide +kernel
theorem dL_isRead_175 : decode cL_isRead 175 = .ok (.invokestatic 31, 3) := by decide +kernel
theorem dL_isRead_178 : decode cL_isRead 178 = .ok (.ifCond .eq 36, 3) := by decide +kernel
theorem dL_isRead_181 : decode cL_isRead 181 = .ok (.aload 11, 2) := by decide +kernel
theorem dL_isRead_183 : decode cL_isRead 183 = .ok (.iload 12, 2) := by decide +kernel
theorem dL_isRead_185 : decode cL_isRead 185 = .ok (.bipush 16, 2) := by decide +kernel
theorem dL_isRead_187 : decode cL_isRead 187 = .ok (.idiv, 1) := by decide +kernel
theorem dL_isRead_188 : decode cL_isRead 188 = .ok (.bipush 16, 2) := by decide +kernel
theorem dL_isRead_190 : decode cL_isRead 190 = .ok (.irem, 1) := by decide +kernel
theorem dL_isRead_191 : decode cL_isRead 191 = .ok (.invokestatic 31, 3) := by decide +kernel
theorem dL_isRead_194 : decode cL_isRead 194 = .ok (.ifCond .eq 20, 3) := by decide +kernel
theorem dL_isRead_197 : decode cL_isRead 197 = .ok (.aload 11, 2) := by decide +kernel
theorem dL_isRead_199 : decode cL_isRead 199 = .ok (.iload 12, 2) := by decide +kernel
theorem dL_isRead_201 : decode cL_isRead 201 = .ok (.bipush 16, 2) := by decide +kernel
theorem dL_isRead_203 : decode cL_isRead 203 = .ok (.irem, 1) := by decide +kernel
theorem dL_isRead_204 : decode cL_isRead 204 = .ok (.invokestatic 31, 3) := by decide +kernel
theorem dL_isRead_207 : decode cL_isRead 207 = .ok (.ifCond .eq 7, 3) := by decide +kernel
theorem dL_isRead_210 : decode cL_isRead 210 = .ok (.iconst 1, 1) := by decide +kernel
theorem dL_isRead_211 : decode cL_isRead 211 = .ok (.goto 4, 3) := by decide +kernel
theorem dL_isRead_214 : decode cL_isRead 214 = .ok (.iconst 0, 1) := by decide +kernel
theorem dL_isRead_215 : decode cL_isRead 215 = .ok (.istore 6, 2) := by decide +kernel
theorem dL_isRead_217 : decode cL_isRead 217 = .ok (.iinc 8 1, 3) := by decide +kernel
theorem dL_isRead_220 : decode cL_isRead 220 = .ok (.goto (-193), 3) := by decide +kernel
theorem dL_isRead_223 : decode cL_isRead 223 = .ok (.iload 6, 2) := by decide +kernel
theorem dL_isRead_225 : decode cL_isRead 225 = .ok (.ifCond .eq 48, 3) := by decide +kernel
theorem dL_isRead_228 : decode cL_isRead 228 = .ok (.aload_n 0, 1) := by decide +kernel
theorem dL_isRead_229 : decode cL_isRead 229 = .ok (.iload_n 2, 1) := by decide +kernel
theorem dL_isRead_230 : decode cL_isRead 230 = .ok (.iload_n 3, 1) := by decide +kernel
theorem dL_isRead_231 : decode cL_isRead 231 = .ok (.invokevirtual 35, 3) := by decide +kernel
theorem dL_isRead_234 : decode cL_isRead 234 = .ok (.bipush 8, 2) := by decide +kernel
theorem dL_isRead_236 : decode cL_isRead 236 = .ok (.iload 7, 2) := by decide +kernel
theorem dL_isRead_238 : decode cL_isRead 238 = .ok (.iconst 2, 1) := by decide +kernel
theorem dL_isRead_239 : decode cL_isRead 239 = .ok (.idiv, 1) := by decide +kernel
theorem dL_isRead_240 : decode cL_isRead 240 = .ok (.isub, 1) := by decide +kernel
theorem dL_isRead_241 : decode cL_isRead 241 = .ok (.if_icmp .ne 32, 3) := by decide +kernel
theorem dL_isRead_244 : decode cL_isRead 244 = .ok (.aload_n 1, 1) := by decide +kernel
theorem dL_isRead_245 : decode cL_isRead 245 = .ok (.iload_n 2, 1) := by decide +kernel
theorem dL_isRead_246 : decode cL_isRead 246 = .ok (.iload_n 3, 1) := by decide +kernel
theorem dL_isRead_247 : decode cL_isRead 247 = .ok (.invokevirtual 35, 3) := by decide +kernel
theorem dL_isRead_250 : decode cL_isRead 250 = .ok (.bipush 8, 2) := by decide +kernel
theorem dL_isRead_252 : decode cL_isRead 252 = .ok (.iload 7, 2) := by decide +kernel
theorem dL_isRead_254 : decode cL_isRead 254 = .ok (.iconst 2, 1) := by decide +kernel
theorem dL_isRead_255 : decode cL_isRead 255 = .ok (.idiv, 1) := by decide +kernel
theorem dL_isRead_256 : decode cL_isRead 256 = .ok (.isub, 1) := by decide +kernel
theorem dL_isRead_257 : decode cL_isRead 257 = .ok (.if_icmp .ne 16, 3) := by decide +kernel
theorem dL_isRead_260 : decode cL_isRead 260 = .ok (.aload_n 0, 1) := by decide +kernel
theorem dL_isRead_261 : decode cL_isRead 261 = .ok (.bipush 19, 2) := by decide +kernel
theorem dL_isRead_263 : decode cL_isRead 263 = .ok (.invokevirtual 25, 3) := by decide +kernel
theorem dL_isRead_266 : decode cL_isRead 266 = .ok (.ifCond .ne 7, 3) := by decide +kernel
theorem dL_isRead_269 : decode cL_isRead 269 = .ok (.iconst 1, 1) := by decide +kernel
theorem dL_isRead_270 : decode cL_isRead 270 = .ok (.goto 4, 3) := by decide +kernel
theorem dL_isRead_273 : decode cL_isRead 273 = .ok (.iconst 0, 1) := by decide +kernel
theorem dL_isRead_274 : decode cL_isRead 274 = .ok (.ireturn, 1) := by decide +kernel
set_option maxRecDepth 20000 in
theorem ggL_isStep_L_up : GoodIn wsL_isStep wsL_up := goodIn_r _ [4, 5] (by decide +kernel) (by decide +kernel)
set_option maxRecDepth 20000 in
theorem gL_isStep_L_up : GoodIn wsL_isStep (va_wsS RL 19 yL_up wsL_up) := goodIn_app (goodIn_of _ (by decide +kernel)) ggL_isStep_L_up
set_option maxRecDepth 20000 in
theorem ggL_isStep_X4_count : GoodIn wsL_isStep wsX4_count := goodIn_r _ [10, 11, 12, 13, 14, 15, 16, 17, 18, 19, 20, 21, 22, 23, 24, 25, 26, 27, 28, 29, 30, 31, 32, 33, 34, 35, 36, 37, 38, 39, 40, 41, 42, 43, 44, 9, 45, 46, 47, 48, 49, 50, 51, 52, 53, 54, 55, 56, 57, 58, 59, 60, 61, 62, 63, 64, 65, 66, 67, 68, 69, 70, 71, 72, 73, 74, 75, 76, 77, 78, 79, 80, 81, 82, 83, 84, 85, 86, 87, 88, 89, 90, 91, 92, 93, 94, 95, 96, 97, 98, 99, 100, 101, 102, 103, 104, 105, 106, 107, 108, 109, 110, 111, 112, 113, 114, 115, 116, 117, 118, 119, 120, 121, 122, 123, 124, 125, 126, 127, 128, 129, 130, 131, 132, 133, 134, 135, 302, 303, 304, 305, 306, 307, 308, 309, 310, 311, 312, 313, 314, 315, 316, 317, 318, 319, 320, 321, 322, 323, 324, 325, 326, 327, 328] (by decide +kernel) (by decide +kernel)
set_option maxRecDepth 20000 in
theorem gL_isStep_X4_count : GoodIn wsL_isStep (wsV RL 25 RX4 yX4_count wsX4_count) := goodIn_app (goodIn_of _ (by decide +kernel)) ggL_isStep_X4_count
set_option maxRecDepth 20000 in
theorem ggL_isStep_X4_ifSet : GoodIn wsL_isStep wsX4_ifSet := goodIn_r _ [139, 140, 11, 13, 141, 18, 142, 143, 144, 9, 145, 146, 12, 147, 148, 149, 150, 151, 152, 40, 153, 154, 155, 156, 157, 158, 42, 159, 135, 43, 160, 161, 162, 163, 25, 26, 27, 28, 29, 30, 31, 32, 33, 34, 35, 36, 37, 38, 39, 41, 44, 45, 46, 47, 48, 49, 50, 51, 52, 53, 54, 55, 56, 57, 58, 59, 60, 61, 62, 63, 64, 65, 66, 67, 68, 69, 70, 71, 72, 73, 74, 75, 76, 77, 78, 79, 80, 81, 82, 83, 84, 85, 86, 87, 88, 89, 90, 91, 92, 93, 94, 95, 96, 97, 98, 99, 100, 101, 102, 103, 104, 105, 106, 107, 108, 109, 110, 111, 112, 113, 114, 115, 116, 128, 129, 130, 302, 303, 304, 305, 306, 307, 308, 314, 315, 316, 317, 318, 319, 320, 321, 322, 323, 309, 310, 311, 312, 313] (by decide +kernel) (by decide +kernel)
set_option maxRecDepth 20000 in
theorem gL_isStep_X4_ifSet : GoodIn wsL_isStep (wsV RL 39 RX4 yX4_ifSet wsX4_ifSet) := goodIn_app (goodIn_of _ (by decide +kernel)) ggL_isStep_X4_ifSet
set_option maxRecDepth 20000 in
theorem ggL_isStep_X4_set : GoodIn wsL_isStep wsX4_set := goodIn_r _ [167, 23, 11, 142, 143, 144, 9, 145, 146, 12, 147, 148, 149, 168, 169, 170, 171, 172, 173, 174, 175, 176, 177, 178, 179, 180, 151, 152, 40, 153, 154, 155, 156, 157, 158, 42, 159, 135, 43, 160, 161, 162, 163, 302, 303, 304, 305, 306, 307, 308, 309, 310, 311, 312, 313, 326, 327, 328] (by decide +kernel) (by decide +kernel)
set_option maxRecDepth 20000 in
theorem gL_isStep_X4_set : GoodIn wsL_isStep (wsV RL 42 RX4 yX4_set wsX4_set) := goodIn_app (goodIn_of _ (by decide +kernel)) ggL_isStep_X4_set
set_option maxRecDepth 20000 in
theorem ggL_isStep_X4_screen : GoodIn wsL_isStep wsX4_screen := goodIn_r _ [184, 23, 11, 14, 185, 186, 9, 187, 168, 169, 170, 171, 172, 173, 174, 175, 176, 177, 178, 179, 180, 151, 152, 40, 153, 154, 155, 156, 157, 158, 42, 159, 135, 43, 302, 303, 304, 305, 306, 307, 308, 309, 310, 311, 312, 313, 326, 327, 328] (by decide +kernel) (by decide +kernel)
set_option maxRecDepth 20000 in
theorem gL_isStep_X4_screen : GoodIn wsL_isStep (wsV RL 45 RX4 yX4_screen wsX4_screen) := goodIn_app (goodIn_of _ (by decide +kernel)) ggL_isStep_X4_screen
set_option maxRecDepth 20000 in
theorem ggL_isStep_X4_fill : GoodIn wsL_isStep wsX4_fill := goodIn_r _ [191, 23, 11, 192, 44, 9, 45, 185, 186, 187, 168, 169, 170, 171, 172, 173, 174, 175, 176, 177, 178, 179, 180, 151, 152, 40, 153, 154, 155, 156, 157, 158, 42, 159, 135, 43, 193, 194, 195, 196, 197, 198, 199, 200, 201, 50, 202, 109, 110, 111, 302, 303, 304, 305, 306, 307, 308, 326, 327, 328, 309, 310, 311, 312, 313] (by decide +kernel) (by decide +kernel)
set_option maxRecDepth 20000 in
theorem gL_isStep_X4_fill : GoodIn wsL_isStep (wsV RL 48 RX4 yX4_fill wsX4_fill) := goodIn_app (goodIn_of _ (by decide +kernel)) ggL_isStep_X4_fill
set_option maxRecDepth 20000 in
theorem ggL_isStep_L_there : GoodIn wsL_isStep wsL_there := goodIn_r _ [205] (by decide +kernel) (by decide +kernel)
set_option maxRecDepth 20000 in
theorem gL_isStep_L_there : GoodIn wsL_isStep (va_wsS RL 52 yL_there wsL_there) := goodIn_app (goodIn_of _ (by decide +kernel)) ggL_isStep_L_there
set_option maxRecDepth 20000 in
theorem ggL_isStep_X4_pixel : GoodIn wsL_isStep wsX4_pixel := goodIn_r _ [209, 13, 11, 20, 19, 210, 15, 211, 16, 17, 212, 18, 192, 44, 9, 45, 25, 26, 27, 28, 29, 30, 31, 32, 33, 34, 35, 36, 37, 38, 39, 40, 41, 42, 43, 46, 47, 48, 49, 50, 51, 52, 53, 54, 55, 56, 57, 58, 59, 60, 61, 62, 63, 64, 65, 66, 67, 68, 69, 70, 71, 72, 73, 74, 75, 76, 77, 78, 79, 80, 81, 82, 83, 84, 85, 86, 87, 88, 89, 90, 91, 92, 93, 94, 95, 96, 97, 98, 99, 100, 101, 102, 103, 104, 105, 106, 107, 108, 109, 110, 111, 112, 113, 114, 115, 116, 213, 302, 303, 304, 305, 306, 307, 308, 309, 310, 311, 312, 313, 314, 315, 316, 317, 318, 319, 320, 321, 322, 323] (by decide +kernel) (by decide +kernel)
set_option maxRecDepth 20000 in
theorem gL_isStep_X4_pixel : GoodIn wsL_isStep (wsV RL 55 RX4 yX4_pixel wsX4_pixel) := goodIn_app (goodIn_of _ (by decide +kernel)) ggL_isStep_X4_pixel
set_option maxRecDepth 20000 in
theorem ggL_isStep_X4_mark : GoodIn wsL_isStep wsX4_mark := goodIn_r _ [217, 11, 218, 23, 192, 44, 9, 45, 168, 169, 170, 171, 172, 173, 174, 175, 176, 177, 178, 179, 180, 151, 152, 40, 153, 154, 155, 156, 157, 158, 42, 159, 135, 43, 131, 132, 133, 134, 302, 303, 304, 305, 306, 307, 308, 309, 310, 311, 312, 313, 326, 327, 328] (by decide +kernel) (by decide +kernel)
set_option maxRecDepth 20000 in
theorem gL_isStep_X4_mark : GoodIn wsL_isStep (wsV RL 58 RX4 yX4_mark wsX4_mark) := goodIn_app (goodIn_of _ (by decide +kernel)) ggL_isStep_X4_mark
set_option maxRecDepth 20000 in
theorem ggL_isStep_X4_keep : GoodIn wsL_isStep wsX4_keep := goodIn_r _ [222, 23, 11, 13, 18, 20, 218, 168, 169, 170, 171, 172, 173, 174, 175, 176, 177, 178, 179, 180, 151, 152, 40, 153, 154, 155, 156, 157, 158, 42, 159, 135, 43, 25, 26, 27, 28, 29, 30, 31, 32, 33, 34, 35, 36, 37, 38, 39, 41, 44, 9, 45, 46, 47, 48, 49, 50, 51, 52, 53, 54, 55, 56, 57, 58, 59, 60, 61, 62, 63, 64, 65, 66, 67, 68, 69, 70, 71, 72, 73, 74, 75, 76, 77, 78, 79, 80, 81, 82, 83, 84, 85, 86, 87, 88, 89, 90, 91, 92, 93, 94, 95, 96, 97, 98, 99, 100, 101, 102, 103, 104, 105, 106, 107, 108, 109, 110, 111, 112, 113, 114, 115, 116, 128, 129, 130, 302, 303, 304, 305, 306, 307, 308, 314, 315, 316, 317, 318, 319, 320, 321, 322, 323, 309, 310, 311, 312, 313, 326, 327, 328] (by decide +kernel) (by decide +kernel)
set_option maxRecDepth 20000 in
theorem gL_isStep_X4_keep : GoodIn wsL_isStep (wsV RL 62 RX4 yX4_keep wsX4_keep) := goodIn_app (goodIn_of _ (by decide +kernel)) ggL_isStep_X4_keep
set_option maxRecDepth 20000 in
theorem ggL_isStep_L_isRead_r1 : GoodIn wsL_isStep wsL_isRead_r1 := goodIn_r _ [226, 227, 228, 229, 9, 230, 21, 22, 1, 2, 3, 4, 5, 6, 7, 8, 10, 11, 12, 13, 14, 15, 16, 17] (by decide +kernel) (by decide +kernel)
set_option maxRecDepth 20000 in
theorem ggL_isStep_L_isRead_r2 : GoodIn wsL_isStep wsL_isRead_r2 := goodIn_r _ [18, 19, 20, 23, 24, 25, 26, 27, 28, 29, 30, 31, 32, 33, 34, 35, 36, 37, 38, 39, 40, 41, 42, 43] (by decide +kernel) (by decide +kernel)
set_option maxRecDepth 20000 in
theorem ggL_isStep_L_isRead_r3 : GoodIn wsL_isStep wsL_isRead_r3 := goodIn_r _ [44, 45, 46, 47, 48, 49, 50, 51, 52, 53, 54, 55, 56, 57, 58, 59, 60, 61, 62, 63, 64, 65, 66, 67] (by decide +kernel) (by decide +kernel)
set_option maxRecDepth 20000 in
theorem ggL_isStep_L_isRead_r4 : GoodIn wsL_isStep wsL_isRead_r4 := goodIn_r _ [68, 69, 70, 71, 72, 73, 74, 75, 76, 77, 78, 79, 80, 81, 82, 83, 84, 85, 86, 87, 88, 89, 90, 91] (by decide +kernel) (by decide +kernel)
set_option maxRecDepth 20000 in
theorem ggL_isStep_L_isRead_r5 : GoodIn wsL_isStep wsL_isRead_r5 := goodIn_r _ [92, 93, 94, 95, 96, 97, 98, 99, 100, 101, 102, 103, 104, 105, 106, 107, 108, 109, 110, 111, 112, 113, 114, 115] (by decide +kernel) (by decide +kernel)
set_option maxRecDepth 20000 in
theorem ggL_isStep_L_isRead_r6 : GoodIn wsL_isStep wsL_isRead_r6 := goodIn_r _ [116, 117, 118, 119, 120, 121, 122, 123, 124, 125, 126, 127, 128, 129, 130, 131, 132, 133, 134, 135, 231, 232, 233, 234] (by decide +kernel) (by decide +kernel)
set_option maxRecDepth 20000 in
theorem ggL_isStep_L_isRead_r7 : GoodIn wsL_isStep wsL_isRead_r7 := goodIn_r _ [235, 236, 237, 238, 239, 240, 241, 242, 243, 244, 245, 246, 247, 248, 249, 250, 251, 252, 253, 254, 255, 256, 257, 258] (by decide +kernel) (by decide +kernel)
set_option maxRecDepth 20000 in
theorem ggL_isStep_L_isRead_r8 : GoodIn wsL_isStep wsL_isRead_r8 := goodIn_r _ [259, 260, 261, 262, 263, 168, 169, 170, 171, 172, 173, 174, 175, 176, 177, 178, 179, 180, 151, 152, 153, 154, 155, 156] (by decide +kernel) (by decide +kernel)
set_option maxRecDepth 20000 in
theorem ggL_isStep_L_isRead_r9 : GoodIn wsL_isStep wsL_isRead_r9 := goodIn_r _ [157, 158, 159, 193, 194, 195, 196, 264, 265, 266, 267] (by decide +kernel) (by decide +kernel)
set_option maxRecDepth 20000 in
theorem ggL_isStep_L_isRead_wsX40 : GoodIn wsL_isStep wsX40 := goodIn_r _ [302, 303, 304, 305, 306, 307, 308] (by decide +kernel) (by decide +kernel)
set_option maxRecDepth 20000 in
theorem ggL_isStep_L_isRead_wsX10 : GoodIn wsL_isStep wsX10 := goodIn_r _ [324, 325] (by decide +kernel) (by decide +kernel)
set_option maxRecDepth 20000 in
theorem ggL_isStep_L_isRead_wsX20 : GoodIn wsL_isStep wsX20 := goodIn_r _ [309, 310, 311, 312, 313] (by decide +kernel) (by decide +kernel)
set_option maxRecDepth 20000 in
theorem ggL_isStep_L_isRead_wsX30 : GoodIn wsL_isStep wsX30 := goodIn_r _ [314, 315, 316, 317, 318, 319, 320, 321, 322, 323] (by decide +kernel) (by decide +kernel)
set_option maxRecDepth 20000 in
theorem ggL_isStep_L_isRead_wsX00 : GoodIn wsL_isStep wsX00 := goodIn_r _ [326, 327, 328] (by decide +kernel) (by decide +kernel)
set_option maxRecDepth 20000 in
theorem ggL_isStep_L_isRead : GoodIn wsL_isStep wsL_isRead := goodIn_cons (List.mem_of_getElem? (i := 225) rfl) rfl (goodIn_app (goodIn_app (goodIn_app (goodIn_app (goodIn_app (goodIn_app ggL_isStep_L_isRead_r1 (goodIn_app ggL_isStep_L_isRead_r2 (goodIn_app ggL_isStep_L_isRead_r3 (goodIn_app ggL_isStep_L_isRead_r4 (goodIn_app ggL_isStep_L_isRead_r5 (goodIn_app ggL_isStep_L_isRead_r6 (goodIn_app ggL_isStep_L_isRead_r7 (goodIn_app ggL_isStep_L_isRead_r8 (ggL_isStep_L_isRead_r9))))))))) ggL_isStep_L_isRead_wsX40) ggL_isStep_L_isRead_wsX10) ggL_isStep_L_isRead_wsX20) ggL_isStep_L_isRead_wsX30) ggL_isStep_L_isRead_wsX00)
set_option maxRecDepth 20000 in
theorem gL_isStep_L_isRead : GoodIn wsL_isStep (va_wsS RL 65 yL_isRead wsL_isRead) := goodIn_app (goodIn_of _ (by decide +kernel)) ggL_isStep_L_isRead
set_option maxRecDepth 20000 in
theorem ggL_isStep_X4_undo : GoodIn wsL_isStep wsX4_undo := goodIn_r _ [271, 23, 24, 11, 272, 273, 274, 171, 275, 175, 173, 174, 176, 177, 178, 179, 180, 151, 152, 40, 153, 154, 155, 156, 157, 158, 42, 159, 135, 43, 302, 303, 304, 305, 306, 307, 308, 326, 327, 328, 309, 310, 311, 312, 313] (by decide +kernel) (by decide +kernel)
set_option maxRecDepth 20000 in
theorem gL_isStep_X4_undo : GoodIn wsL_isStep (wsV RL 69 RX4 yX4_undo wsX4_undo) := goodIn_app (goodIn_of _ (by decide +kernel)) ggL_isStep_X4_undo
set_option maxRecDepth 20000 in
theorem ggL_isStep_X4_save : GoodIn wsL_isStep wsX4_save := goodIn_r _ [279, 280, 281, 282, 40, 11, 283, 284, 9, 285, 286, 287, 288, 289, 290, 291, 292, 154, 42, 159, 293, 135, 43, 155, 156, 157, 158, 150, 151, 152, 153, 131, 132, 133, 134, 302, 303, 304, 305, 306, 307, 308, 309, 310, 311, 312, 313] (by decide +kernel) (by decide +kernel)
set_option maxRecDepth 20000 in
theorem gL_isStep_X4_save : GoodIn wsL_isStep (wsV RL 72 RX4 yX4_save wsX4_save) := goodIn_app (goodIn_of _ (by decide +kernel)) ggL_isStep_X4_save
set_option maxRecDepth 20000 in
theorem ggL_isStep_X4_restore : GoodIn wsL_isStep wsX4_restore := goodIn_r _ [297, 280, 23, 11, 283, 284, 9, 285, 168, 169, 170, 171, 172, 173, 174, 175, 176, 177, 178, 179, 180, 151, 152, 40, 153, 154, 155, 156, 157, 158, 42, 159, 135, 43, 150, 131, 132, 133, 134, 302, 303, 304, 305, 306, 307, 308, 326, 327, 328, 309, 310, 311, 312, 313] (by decide +kernel) (by decide +kernel)
set_option maxRecDepth 20000 in
theorem gL_isStep_X4_restore : GoodIn wsL_isStep (wsV RL 75 RX4 yX4_restore wsX4_restore) := goodIn_app (goodIn_of _ (by decide +kernel)) ggL_isStep_X4_restore
set_option maxRecDepth 20000 in
theorem ggL_isStep_X4_paint : GoodIn wsL_isStep wsX4_paint := goodIn_r _ [301, 23, 11, 192, 44, 9, 45, 185, 186, 187, 168, 169, 170, 171, 172, 173, 174, 175, 176, 177, 178, 179, 180, 151, 152, 40, 153, 154, 155, 156, 157, 158, 42, 159, 135, 43, 193, 194, 195, 196, 302, 303, 304, 305, 306, 307, 308, 326, 327, 328, 309, 310, 311, 312, 313] (by decide +kernel) (by decide +kernel)
set_option maxRecDepth 20000 in
theorem gL_isStep_X4_paint : GoodIn wsL_isStep (wsV RL 78 RX4 yX4_paint wsX4_paint) := goodIn_app (goodIn_of _ (by decide +kernel)) ggL_isStep_X4_paint
theorem dL_isStep_0 : decode cL_isStep 0 = .ok (.iload_n 2, 1) := by decide +kernel
theorem dL_isStep_1 : decode cL_isStep 1 = .ok (.iconst 4, 1) := by decide +kernel
theorem dL_isStep_2 : decode cL_isStep 2 = .ok (.ishr, 1) := by decide +kernel
theorem dL_isStep_3 : decode cL_isStep 3 = .ok (.istore 4, 2) := by decide +kernel
theorem dL_isStep_5 : decode cL_isStep 5 = .ok (.iload 4, 2) := by decide +kernel
theorem dL_isStep_7 : decode cL_isStep 7 = .ok (.bipush 48, 2) := by decide +kernel
theorem dL_isStep_9 : decode cL_isStep 9 = .ok (.invokestatic 19, 3) := by decide +kernel
theorem dL_isStep_12 : decode cL_isStep 12 = .ok (.istore 5, 2) := by decide +kernel
theorem dL_isStep_14 : decode cL_isStep 14 = .ok (.iload 4, 2) := by decide +kernel
theorem dL_isStep_16 : decode cL_isStep 16 = .ok (.bipush 6, 2) := by decide +kernel
theorem dL_isStep_18 : decode cL_isStep 18 = .ok (.ishr, 1) := by decide +kernel
theorem dL_isStep_19 : decode cL_isStep 19 = .ok (.iconst 4, 1) := by decide +kernel
theorem dL_isStep_20 : decode cL_isStep 20 = .ok (.invokestatic 19, 3) := by decide +kernel
theorem dL_isStep_23 : decode cL_isStep 23 = .ok (.ifCond .le 7, 3) := by decide +kernel
theorem dL_isStep_26 : decode cL_isStep 26 = .ok (.iconst 1, 1) := by decide +kernel
theorem dL_isStep_27 : decode cL_isStep 27 = .ok (.goto 4, 3) := by decide +kernel
theorem dL_isStep_30 : decode cL_isStep 30 = .ok (.iconst 0, 1) := by decide +kernel
theorem dL_isStep_31 : decode cL_isStep 31 = .ok (.istore 6, 2) := by decide +kernel
theorem dL_isStep_33 : decode cL_isStep 33 = .ok (.iload_n 3, 1) := by decide +kernel
theorem dL_isStep_34 : decode cL_isStep 34 = .ok (.iconst 3, 1) := by decide +kernel
theorem dL_isStep_35 : decode cL_isStep 35 = .ok (.invokestatic 19, 3) := by decide +kernel
theorem dL_isStep_38 : decode cL_isStep 38 = .ok (.ifCond .ne 30, 3) := by decide +kernel
theorem dL_isStep_41 : decode cL_isStep 41 = .ok (.aload_n 0, 1) := by decide +kernel
theorem dL_isStep_42 : decode cL_isStep 42 = .ok (.bipush 6, 2) := by decide +kernel
theorem dL_isStep_44 : decode cL_isStep 44 = .ok (.invokevirtual 25, 3) := by decide +kernel
theorem dL_isStep_47 : decode cL_isStep 47 = .ok (.iload_n 3, 1) := by decide +kernel
theorem dL_isStep_48 : decode cL_isStep 48 = .ok (.iconst 3, 1) := by decide +kernel
theorem dL_isStep_49 : decode cL_isStep 49 = .ok (.ishr, 1) := by decide +kernel
theorem dL_isStep_50 : decode cL_isStep 50 = .ok (.iconst 2, 1) := by decide +kernel
theorem dL_isStep_51 : decode cL_isStep 51 = .ok (.invokestatic 19, 3) := by decide +kernel
theorem dL_isStep_54 : decode cL_isStep 54 = .ok (.iconst 4, 1) := by decide +kernel
theorem dL_isStep_55 : decode cL_isStep 55 = .ok (.iload_n 3, 1) := by decide +kernel
theorem dL_isStep_56 : decode cL_isStep 56 = .ok (.iconst 5, 1) := by decide +kernel
theorem dL_isStep_57 : decode cL_isStep 57 = .ok (.ishr, 1) := by decide +kernel
theorem dL_isStep_58 : decode cL_isStep 58 = .ok (.iconst 3, 1) := by decide +kernel
theorem dL_isStep_59 : decode cL_isStep 59 = .ok (.invokestatic 19, 3) := by decide +kernel
theorem dL_isStep_62 : decode cL_isStep 62 = .ok (.imul, 1) := by decide +kernel
theorem dL_isStep_63 : decode cL_isStep 63 = .ok (.ishl, 1) := by decide +kernel
theorem dL_isStep_64 : decode cL_isStep 64 = .ok (.ixor, 1) := by decide +kernel
theorem dL_isStep_65 : decode cL_isStep 65 = .ok (.goto 12, 3) := by decide +kernel
theorem dL_isStep_68 : decode cL_isStep 68 = .ok (.iload_n 3, 1) := by decide +kernel
theorem dL_isStep_69 : decode cL_isStep 69 = .ok (.iconst 2, 1) := by decide +kernel
theorem dL_isStep_70 : decode cL_isStep 70 = .ok (.ishr, 1) := by decide +kernel
theorem dL_isStep_71 : decode cL_isStep 71 = .ok (.sipush 4096, 3) := by decide +kernel
theorem dL_isStep_74 : decode cL_isStep 74 = .ok (.invokestatic 19, 3) := by decide +kernel
theorem dL_isStep_77 : decode cL_isStep 77 = .ok (.istore 7, 2) := by decide +kernel
theorem dL_isStep_79 : decode cL_isStep 79 = .ok (.iload_n 2, 1) := by decide +kernel
theorem dL_isStep_80 : decode cL_isStep 80 = .ok (.bipush 15, 2) := by decide +kernel
theorem dL_isStep_82 : decode cL_isStep 82 = .ok (.invokestatic 19, 3) := by decide +kernel
theorem dL_isStep_85 : decode cL_isStep 85 = .ok (.tableswitch 820 0 12 #[67, 67, 250, 306, 306, 306, 496, 496, 606, 706, 706, 726, 752], 67) := by decide +kernel
theorem dL_isStep_152 : decode cL_isStep 152 = .ok (.iload 4, 2) := by decide +kernel
theorem dL_isStep_154 : decode cL_isStep 154 = .ok (.bipush 6, 2) := by decide +kernel
theorem dL_isStep_156 : decode cL_isStep 156 = .ok (.invokestatic 19, 3) := by decide +kernel
theorem dL_isStep_159 : decode cL_isStep 159 = .ok (.istore 8, 2) := by decide +kernel
theorem dL_isStep_161 : decode cL_isStep 161 = .ok (.iload 8, 2) := by decide +kernel
theorem dL_isStep_163 : decode cL_isStep 163 = .ok (.iconst 2, 1) := by decide +kernel
theorem dL_isStep_164 : decode cL_isStep 164 = .ok (.if_icmp .ge 12, 3) := by decide +kernel
theorem dL_isStep_167 : decode cL_isStep 167 = .ok (.iload_n 3, 1) := by decide +kernel
theorem dL_isStep_168 : decode cL_isStep 168 = .ok (.bipush 46, 2) := by decide +kernel
theorem dL_isStep_170 : decode cL_isStep 170 = .ok (.invokestatic 19, 3) := by decide +kernel
theorem dL_isStep_173 : decode cL_isStep 173 = .ok (.goto 23, 3) := by decide +kernel
theorem dL_isStep_176 : decode cL_isStep 176 = .ok (.iload 8, 2) := by decide +kernel
theorem dL_isStep_178 : decode cL_isStep 178 = .ok (.iconst 5, 1) := by decide +kernel
theorem dL_isStep_179 : decode cL_isStep 179 = .ok (.if_icmp .ge 12, 3) := by decide +kernel
theorem dL_isStep_182 : decode cL_isStep 182 = .ok (.iload_n 3, 1) := by decide +kernel
theorem dL_isStep_183 : decode cL_isStep 183 = .ok (.bipush 17, 2) := by decide +kernel
theorem dL_isStep_185 : decode cL_isStep 185 = .ok (.invokestatic 19, 3) := by decide +kernel
theorem dL_isStep_188 : decode cL_isStep 188 = .ok (.goto 8, 3) := by decide +kernel
theorem dL_isStep_191 : decode cL_isStep 191 = .ok (.iload_n 3, 1) := by decide +kernel
theorem dL_isStep_192 : decode cL_isStep 192 = .ok (.iconst 2, 1) := by decide +kernel
theorem dL_isStep_193 : decode cL_isStep 193 = .ok (.invokestatic 19, 3) := by decide +kernel
theorem dL_isStep_196 : decode cL_isStep 196 = .ok (.istore 9, 2) := by decide +kernel
theorem dL_isStep_198 : decode cL_isStep 198 = .ok (.aload_n 0, 1) := by decide +kernel
theorem dL_isStep_199 : decode cL_isStep 199 = .ok (.iload 8, 2) := by decide +kernel
theorem dL_isStep_201 : decode cL_isStep 201 = .ok (.invokevirtual 25, 3) := by decide +kernel
theorem dL_isStep_204 : decode cL_isStep 204 = .ok (.istore 10, 2) := by decide +kernel
theorem dL_isStep_206 : decode cL_isStep 206 = .ok (.iload 8, 2) := by decide +kernel
theorem dL_isStep_208 : decode cL_isStep 208 = .ok (.ifCond .ne 21, 3) := by decide +kernel
theorem dL_isStep_211 : decode cL_isStep 211 = .ok (.iload 9, 2) := by decide +kernel
theorem dL_isStep_213 : decode cL_isStep 213 = .ok (.aload_n 0, 1) := by decide +kernel
theorem dL_isStep_214 : decode cL_isStep 214 = .ok (.iconst 1, 1) := by decide +kernel
theorem dL_isStep_215 : decode cL_isStep 215 = .ok (.invokevirtual 25, 3) := by decide +kernel
theorem dL_isStep_218 : decode cL_isStep 218 = .ok (.if_icmp .ge 7, 3) := by decide +kernel
theorem dL_isStep_221 : decode cL_isStep 221 = .ok (.iconst 1, 1) := by decide +kernel
theorem dL_isStep_222 : decode cL_isStep 222 = .ok (.goto 28, 3) := by decide +kernel
theorem dL_isStep_225 : decode cL_isStep 225 = .ok (.iconst 0, 1) := by decide +kernel
theorem dL_isStep_226 : decode cL_isStep 226 = .ok (.goto 24, 3) := by decide +kernel
theorem dL_isStep_229 : decode cL_isStep 229 = .ok (.iload 8, 2) := by decide +kernel
theorem dL_isStep_231 : decode cL_isStep 231 = .ok (.iconst 1, 1) := by decide +kernel
theorem dL_isStep_232 : decode cL_isStep 232 = .ok (.if_icmp .ne 13, 3) := by decide +kernel
theorem dL_isStep_235 : decode cL_isStep 235 = .ok (.iload 9, 2) := by decide +kernel
theorem dL_isStep_237 : decode cL_isStep 237 = .ok (.aload_n 0, 1) := by decide +kernel
theorem dL_isStep_238 : decode cL_isStep 238 = .ok (.iconst 0, 1) := by decide +kernel
theorem dL_isStep_239 : decode cL_isStep 239 = .ok (.invokevirtual 25, 3) := by decide +kernel
theorem dL_isStep_242 : decode cL_isStep 242 = .ok (.if_icmp .le 7, 3) := by decide +kernel
theorem dL_isStep_245 : decode cL_isStep 245 = .ok (.iconst 1, 1) := by decide +kernel
theorem dL_isStep_246 : decode cL_isStep 246 = .ok (.goto 4, 3) := by decide +kernel
theorem dL_isStep_249 : decode cL_isStep 249 = .ok (.iconst 0, 1) := by decide +kernel
theorem dL_isStep_250 : decode cL_isStep 250 = .ok (.istore 11, 2) := by decide +kernel
theorem dL_isStep_252 : decode cL_isStep 252 = .ok (.aload_n 0, 1) := by decide +kernel
theorem dL_isStep_253 : decode cL_isStep 253 = .ok (.iload 8, 2) := by decide +kernel
theorem dL_isStep_255 : decode cL_isStep 255 = .ok (.iload 9, 2) := by decide +kernel
theorem dL_isStep_257 : decode cL_isStep 257 = .ok (.invokevirtual 39, 3) := by decide +kernel
theorem dL_isStep_260 : decode cL_isStep 260 = .ok (.istore 12, 2) := by decide +kernel
theorem dL_isStep_262 : decode cL_isStep 262 = .ok (.aload_n 0, 1) := by decide +kernel
theorem dL_isStep_263 : decode cL_isStep 263 = .ok (.iload 8, 2) := by decide +kernel
theorem dL_isStep_265 : decode cL_isStep 265 = .ok (.iload 9, 2) := by decide +kernel
theorem dL_isStep_267 : decode cL_isStep 267 = .ok (.invokevirtual 42, 3) := by decide +kernel
theorem dL_isStep_270 : decode cL_isStep 270 = .ok (.istore 13, 2) := by decide +kernel
theorem dL_isStep_272 : decode cL_isStep 272 = .ok (.iload 13, 2) := by decide +kernel
theorem dL_isStep_274 : decode cL_isStep 274 = .ok (.aload_n 1, 1) := by decide +kernel
theorem dL_isStep_275 : decode cL_isStep 275 = .ok (.iload 8, 2) := by decide +kernel
theorem dL_isStep_277 : decode cL_isStep 277 = .ok (.iload 9, 2) := by decide +kernel
theorem dL_isStep_279 : decode cL_isStep 279 = .ok (.invokevirtual 42, 3) := by decide +kernel
theorem dL_isStep_282 : decode cL_isStep 282 = .ok (.if_icmp .ne 51, 3) := by decide +kernel
theorem dL_isStep_285 : decode cL_isStep 285 = .ok (.iload 13, 2) := by decide +kernel
theorem dL_isStep_287 : decode cL_isStep 287 = .ok (.iload 11, 2) := by decide +kernel
theorem dL_isStep_289 : decode cL_isStep 289 = .ok (.ifCond .eq 8, 3) := by decide +kernel
theorem dL_isStep_292 : decode cL_isStep 292 = .ok (.iload 10, 2) := by decide +kernel
theorem dL_isStep_294 : decode cL_isStep 294 = .ok (.goto 5, 3) := by decide +kernel
theorem dL_isStep_297 : decode cL_isStep 297 = .ok (.bipush (-5), 2) := by decide +kernel
theorem dL_isStep_299 : decode cL_isStep 299 = .ok (.if_icmp .ne 34, 3) := by decide +kernel
theorem dL_isStep_302 : decode cL_isStep 302 = .ok (.iload 11, 2) := by decide +kernel
theorem dL_isStep_304 : decode cL_isStep 304 = .ok (.ifCond .eq 18, 3) := by decide +kernel
theorem dL_isStep_307 : decode cL_isStep 307 = .ok (.iload 12, 2) := by decide +kernel
theorem dL_isStep_309 : decode cL_isStep 309 = .ok (.ifCond .lt 24, 3) := by decide +kernel
theorem dL_isStep_312 : decode cL_isStep 312 = .ok (.iload 12, 2) := by decide +kernel
theorem dL_isStep_314 : decode cL_isStep 314 = .ok (.bipush 48, 2) := by decide +kernel
theorem dL_isStep_316 : decode cL_isStep 316 = .ok (.if_icmp .gt 17, 3) := by decide +kernel
theorem dL_isStep_319 : decode cL_isStep 319 = .ok (.goto 10, 3) := by decide +kernel
theorem dL_isStep_322 : decode cL_isStep 322 = .ok (.iload 12, 2) := by decide +kernel
theorem dL_isStep_324 : decode cL_isStep 324 = .ok (.iload 13, 2) := by decide +kernel
theorem dL_isStep_326 : decode cL_isStep 326 = .ok (.if_icmp .ne 7, 3) := by decide +kernel
theorem dL_isStep_329 : decode cL_isStep 329 = .ok (.iconst 1, 1) := by decide +kernel
theorem dL_isStep_330 : decode cL_isStep 330 = .ok (.goto 4, 3) := by decide +kernel
theorem dL_isStep_333 : decode cL_isStep 333 = .ok (.iconst 0, 1) := by decide +kernel
theorem dL_isStep_334 : decode cL_isStep 334 = .ok (.ireturn, 1) := by decide +kernel
theorem dL_isStep_335 : decode cL_isStep 335 = .ok (.aload_n 0, 1) := by decide +kernel
theorem dL_isStep_336 : decode cL_isStep 336 = .ok (.bipush 6, 2) := by decide +kernel
theorem dL_isStep_338 : decode cL_isStep 338 = .ok (.invokevirtual 25, 3) := by decide +kernel
theorem dL_isStep_341 : decode cL_isStep 341 = .ok (.istore 8, 2) := by decide +kernel
theorem dL_isStep_343 : decode cL_isStep 343 = .ok (.iload_n 3, 1) := by decide +kernel
theorem dL_isStep_344 : decode cL_isStep 344 = .ok (.sipush 4096, 3) := by decide +kernel
theorem dL_isStep_347 : decode cL_isStep 347 = .ok (.invokestatic 19, 3) := by decide +kernel
theorem dL_isStep_350 : decode cL_isStep 350 = .ok (.istore 9, 2) := by decide +kernel
theorem dL_isStep_352 : decode cL_isStep 352 = .ok (.aload_n 0, 1) := by decide +kernel
theorem dL_isStep_353 : decode cL_isStep 353 = .ok (.iload 9, 2) := by decide +kernel
theorem dL_isStep_355 : decode cL_isStep 355 = .ok (.invokevirtual 45, 3) := by decide +kernel
theorem dL_isStep_358 : decode cL_isStep 358 = .ok (.iload 8, 2) := by decide +kernel
theorem dL_isStep_360 : decode cL_isStep 360 = .ok (.if_icmp .ne 29, 3) := by decide +kernel
theorem dL_isStep_363 : decode cL_isStep 363 = .ok (.aload_n 1, 1) := by decide +kernel
theorem dL_isStep_364 : decode cL_isStep 364 = .ok (.iload 9, 2) := by decide +kernel
theorem dL_isStep_366 : decode cL_isStep 366 = .ok (.invokevirtual 45, 3) := by decide +kernel
theorem dL_isStep_369 : decode cL_isStep 369 = .ok (.iload 8, 2) := by decide +kernel
theorem dL_isStep_371 : decode cL_isStep 371 = .ok (.if_icmp .ne 18, 3) := by decide +kernel
theorem dL_isStep_374 : decode cL_isStep 374 = .ok (.aload_n 0, 1) := by decide +kernel
theorem dL_isStep_375 : decode cL_isStep 375 = .ok (.bipush 6, 2) := by decide +kernel
theorem dL_isStep_377 : decode cL_isStep 377 = .ok (.invokevirtual 25, 3) := by decide +kernel
theorem dL_isStep_380 : decode cL_isStep 380 = .ok (.iload 9, 2) := by decide +kernel
theorem dL_isStep_382 : decode cL_isStep 382 = .ok (.if_icmp .ne 7, 3) := by decide +kernel
theorem dL_isStep_385 : decode cL_isStep 385 = .ok (.iconst 1, 1) := by decide +kernel
theorem dL_isStep_386 : decode cL_isStep 386 = .ok (.goto 4, 3) := by decide +kernel
theorem dL_isStep_389 : decode cL_isStep 389 = .ok (.iconst 0, 1) := by decide +kernel
theorem dL_isStep_390 : decode cL_isStep 390 = .ok (.ireturn, 1) := by decide +kernel
theorem dL_isStep_391 : decode cL_isStep 391 = .ok (.iload_n 3, 1) := by decide +kernel
theorem dL_isStep_392 : decode cL_isStep 392 = .ok (.bipush 7, 2) := by decide +kernel
theorem dL_isStep_394 : decode cL_isStep 394 = .ok (.ishr, 1) := by decide +kernel
theorem dL_isStep_395 : decode cL_isStep 395 = .ok (.bipush 48, 2) := by decide +kernel
theorem dL_isStep_397 : decode cL_isStep 397 = .ok (.invokestatic 19, 3) := by decide +kernel
theorem dL_isStep_400 : decode cL_isStep 400 = .ok (.istore 8, 2) := by decide +kernel
theorem dL_isStep_402 : decode cL_isStep 402 = .ok (.iload 5, 2) := by decide +kernel
theorem dL_isStep_404 : decode cL_isStep 404 = .ok (.bipush 8, 2) := by decide +kernel
theorem dL_isStep_406 : decode cL_isStep 406 = .ok (.irem, 1) := by decide +kernel
theorem dL_isStep_407 : decode cL_isStep 407 = .ok (.iload 8, 2) := by decide +kernel
theorem dL_isStep_409 : decode cL_isStep 409 = .ok (.bipush 8, 2) := by decide +kernel
theorem dL_isStep_411 : decode cL_isStep 411 = .ok (.irem, 1) := by decide +kernel
theorem dL_isStep_412 : decode cL_isStep 412 = .ok (.if_icmp .ge 17, 3) := by decide +kernel
theorem dL_isStep_415 : decode cL_isStep 415 = .ok (.iload 8, 2) := by decide +kernel
theorem dL_isStep_417 : decode cL_isStep 417 = .ok (.bipush 8, 2) := by decide +kernel
theorem dL_isStep_419 : decode cL_isStep 419 = .ok (.irem, 1) := by decide +kernel
theorem dL_isStep_420 : decode cL_isStep 420 = .ok (.iload 5, 2) := by decide +kernel
theorem dL_isStep_422 : decode cL_isStep 422 = .ok (.bipush 8, 2) := by decide +kernel
theorem dL_isStep_424 : decode cL_isStep 424 = .ok (.irem, 1) := by decide +kernel
theorem dL_isStep_425 : decode cL_isStep 425 = .ok (.isub, 1) := by decide +kernel
theorem dL_isStep_426 : decode cL_isStep 426 = .ok (.goto 14, 3) := by decide +kernel
theorem dL_isStep_429 : decode cL_isStep 429 = .ok (.iload 5, 2) := by decide +kernel
theorem dL_isStep_431 : decode cL_isStep 431 = .ok (.bipush 8, 2) := by decide +kernel
theorem dL_isStep_433 : decode cL_isStep 433 = .ok (.irem, 1) := by decide +kernel
theorem dL_isStep_434 : decode cL_isStep 434 = .ok (.iload 8, 2) := by decide +kernel
theorem dL_isStep_436 : decode cL_isStep 436 = .ok (.bipush 8, 2) := by decide +kernel
theorem dL_isStep_438 : decode cL_isStep 438 = .ok (.irem, 1) := by decide +kernel
theorem dL_isStep_439 : decode cL_isStep 439 = .ok (.isub, 1) := by decide +kernel
theorem dL_isStep_440 : decode cL_isStep 440 = .ok (.istore 9, 2) := by decide +kernel
theorem dL_isStep_442 : decode cL_isStep 442 = .ok (.iload 5, 2) := by decide +kernel
theorem dL_isStep_444 : decode cL_isStep 444 = .ok (.bipush 8, 2) := by decide +kernel
theorem dL_isStep_446 : decode cL_isStep 446 = .ok (.idiv, 1) := by decide +kernel
theorem dL_isStep_447 : decode cL_isStep 447 = .ok (.iload 8, 2) := by decide +kernel
theorem dL_isStep_449 : decode cL_isStep 449 = .ok (.bipush 8, 2) := by decide +kernel
theorem dL_isStep_451 : decode cL_isStep 451 = .ok (.idiv, 1) := by decide +kernel
theorem dL_isStep_452 : decode cL_isStep 452 = .ok (.if_icmp .ge 17, 3) := by decide +kernel
theorem dL_isStep_455 : decode cL_isStep 455 = .ok (.iload 8, 2) := by decide +kernel
theorem dL_isStep_457 : decode cL_isStep 457 = .ok (.bipush 8, 2) := by decide +kernel
theorem dL_isStep_459 : decode cL_isStep 459 = .ok (.idiv, 1) := by decide +kernel
theorem dL_isStep_460 : decode cL_isStep 460 = .ok (.iload 5, 2) := by decide +kernel
theorem dL_isStep_462 : decode cL_isStep 462 = .ok (.bipush 8, 2) := by decide +kernel
theorem dL_isStep_464 : decode cL_isStep 464 = .ok (.idiv, 1) := by decide +kernel
theorem dL_isStep_465 : decode cL_isStep 465 = .ok (.isub, 1) := by decide +kernel
theorem dL_isStep_466 : decode cL_isStep 466 = .ok (.goto 14, 3) := by decide +kernel
theorem dL_isStep_469 : decode cL_isStep 469 = .ok (.iload 5, 2) := by decide +kernel
theorem dL_isStep_471 : decode cL_isStep 471 = .ok (.bipush 8, 2) := by decide +kernel
theorem dL_isStep_473 : decode cL_isStep 473 = .ok (.idiv, 1) := by decide +kernel
theorem dL_isStep_474 : decode cL_isStep 474 = .ok (.iload 8, 2) := by decide +kernel
theorem dL_isStep_476 : decode cL_isStep 476 = .ok (.bipush 8, 2) := by decide +kernel
theorem dL_isStep_478 : decode cL_isStep 478 = .ok (.idiv, 1) := by decide +kernel
theorem dL_isStep_479 : decode cL_isStep 479 = .ok (.isub, 1) := by decide +kernel
theorem dL_isStep_480 : decode cL_isStep 480 = .ok (.istore 10, 2) := by decide +kernel
theorem dL_isStep_482 : decode cL_isStep 482 = .ok (.aload_n 0, 1) := by decide +kernel
theorem dL_isStep_483 : decode cL_isStep 483 = .ok (.iload 6, 2) := by decide +kernel
theorem dL_isStep_485 : decode cL_isStep 485 = .ok (.iload 5, 2) := by decide +kernel
theorem dL_isStep_487 : decode cL_isStep 487 = .ok (.iload 8, 2) := by decide +kernel
theorem dL_isStep_489 : decode cL_isStep 489 = .ok (.iload 7, 2) := by decide +kernel
theorem dL_isStep_491 : decode cL_isStep 491 = .ok (.invokevirtual 48, 3) := by decide +kernel
theorem dL_isStep_494 : decode cL_isStep 494 = .ok (.istore 11, 2) := by decide +kernel
theorem dL_isStep_496 : decode cL_isStep 496 = .ok (.iload 11, 2) := by decide +kernel
theorem dL_isStep_498 : decode cL_isStep 498 = .ok (.aload_n 1, 1) := by decide +kernel
theorem dL_isStep_499 : decode cL_isStep 499 = .ok (.iload 6, 2) := by decide +kernel
theorem dL_isStep_501 : decode cL_isStep 501 = .ok (.iload 8, 2) := by decide +kernel
theorem dL_isStep_503 : decode cL_isStep 503 = .ok (.invokestatic 52, 3) := by decide +kernel
theorem dL_isStep_506 : decode cL_isStep 506 = .ok (.iload 5, 2) := by decide +kernel
theorem dL_isStep_508 : decode cL_isStep 508 = .ok (.invokestatic 52, 3) := by decide +kernel
theorem dL_isStep_511 : decode cL_isStep 511 = .ok (.iload 7, 2) := by decide +kernel
theorem dL_isStep_513 : decode cL_isStep 513 = .ok (.invokevirtual 48, 3) := by decide +kernel
theorem dL_isStep_516 : decode cL_isStep 516 = .ok (.if_icmp .ne 63, 3) := by decide +kernel
theorem dL_isStep_519 : decode cL_isStep 519 = .ok (.iload 11, 2) := by decide +kernel
theorem dL_isStep_521 : decode cL_isStep 521 = .ok (.iload 9, 2) := by decide +kernel
theorem dL_isStep_523 : decode cL_isStep 523 = .ok (.iconst 1, 1) := by decide +kernel
theorem dL_isStep_524 : decode cL_isStep 524 = .ok (.iadd, 1) := by decide +kernel
theorem dL_isStep_525 : decode cL_isStep 525 = .ok (.iload 10, 2) := by decide +kernel
theorem dL_isStep_527 : decode cL_isStep 527 = .ok (.iconst 1, 1) := by decide +kernel
theorem dL_isStep_528 : decode cL_isStep 528 = .ok (.iadd, 1) := by decide +kernel
theorem dL_isStep_529 : decode cL_isStep 529 = .ok (.imul, 1) := by decide +kernel
theorem dL_isStep_530 : decode cL_isStep 530 = .ok (.if_icmp .ne 49, 3) := by decide +kernel
theorem dL_isStep_533 : decode cL_isStep 533 = .ok (.aload_n 0, 1) := by decide +kernel
theorem dL_isStep_534 : decode cL_isStep 534 = .ok (.iload 5, 2) := by decide +kernel
theorem dL_isStep_536 : decode cL_isStep 536 = .ok (.iload 6, 2) := by decide +kernel
theorem dL_isStep_538 : decode cL_isStep 538 = .ok (.ifCond .eq 7, 3) := by decide +kernel
theorem dL_isStep_541 : decode cL_isStep 541 = .ok (.iconst 0, 1) := by decide +kernel
theorem dL_isStep_542 : decode cL_isStep 542 = .ok (.goto 4, 3) := by decide +kernel
theorem dL_isStep_545 : decode cL_isStep 545 = .ok (.iconst 1, 1) := by decide +kernel
theorem dL_isStep_546 : decode cL_isStep 546 = .ok (.invokevirtual 55, 3) := by decide +kernel
theorem dL_isStep_549 : decode cL_isStep 549 = .ok (.iload 7, 2) := by decide +kernel
theorem dL_isStep_551 : decode cL_isStep 551 = .ok (.if_icmp .ne 28, 3) := by decide +kernel
theorem dL_isStep_554 : decode cL_isStep 554 = .ok (.aload_n 0, 1) := by decide +kernel
theorem dL_isStep_555 : decode cL_isStep 555 = .ok (.iload 8, 2) := by decide +kernel
theorem dL_isStep_557 : decode cL_isStep 557 = .ok (.iload 6, 2) := by decide +kernel
theorem dL_isStep_559 : decode cL_isStep 559 = .ok (.ifCond .eq 7, 3) := by decide +kernel
theorem dL_isStep_562 : decode cL_isStep 562 = .ok (.iconst 0, 1) := by decide +kernel
theorem dL_isStep_563 : decode cL_isStep 563 = .ok (.goto 4, 3) := by decide +kernel
theorem dL_isStep_566 : decode cL_isStep 566 = .ok (.iconst 1, 1) := by decide +kernel
theorem dL_isStep_567 : decode cL_isStep 567 = .ok (.invokevirtual 55, 3) := by decide +kernel
theorem dL_isStep_570 : decode cL_isStep 570 = .ok (.iload 7, 2) := by decide +kernel
theorem dL_isStep_572 : decode cL_isStep 572 = .ok (.if_icmp .ne 7, 3) := by decide +kernel
theorem dL_isStep_575 : decode cL_isStep 575 = .ok (.iconst 1, 1) := by decide +kernel
theorem dL_isStep_576 : decode cL_isStep 576 = .ok (.goto 4, 3) := by decide +kernel
theorem dL_isStep_579 : decode cL_isStep 579 = .ok (.iconst 0, 1) := by decide +kernel
theorem dL_isStep_580 : decode cL_isStep 580 = .ok (.ireturn, 1) := by decide +kernel
theorem dL_isStep_581 : decode cL_isStep 581 = .ok (.aload_n 0, 1) := by decide +kernel
theorem dL_isStep_582 : decode cL_isStep 582 = .ok (.iload 5, 2) := by decide +kernel
theorem dL_isStep_584 : decode cL_isStep 584 = .ok (.iconst 5, 1) := by decide +kernel
theorem dL_isStep_585 : decode cL_isStep 585 = .ok (.invokevirtual 55, 3) := by decide +kernel
theorem dL_isStep_588 : decode cL_isStep 588 = .ok (.iconst 4, 1) := by decide +kernel
theorem dL_isStep_589 : decode cL_isStep 589 = .ok (.if_icmp .eq 7, 3) := by decide +kernel
theorem dL_isStep_592 : decode cL_isStep 592 = .ok (.iconst 1, 1) := by decide +kernel
theorem dL_isStep_593 : decode cL_isStep 593 = .ok (.goto 4, 3) := by decide +kernel
theorem dL_isStep_596 : decode cL_isStep 596 = .ok (.iconst 0, 1) := by decide +kernel
theorem dL_isStep_597 : decode cL_isStep 597 = .ok (.istore 8, 2) := by decide +kernel
theorem dL_isStep_599 : decode cL_isStep 599 = .ok (.aload_n 0, 1) := by decide +kernel
theorem dL_isStep_600 : decode cL_isStep 600 = .ok (.bipush 18, 2) := by decide +kernel
theorem dL_isStep_602 : decode cL_isStep 602 = .ok (.invokevirtual 25, 3) := by decide +kernel
theorem dL_isStep_605 : decode cL_isStep 605 = .ok (.istore 9, 2) := by decide +kernel
theorem dL_isStep_607 : decode cL_isStep 607 = .ok (.aload_n 0, 1) := by decide +kernel
theorem dL_isStep_608 : decode cL_isStep 608 = .ok (.iload 5, 2) := by decide +kernel
theorem dL_isStep_610 : decode cL_isStep 610 = .ok (.iload 8, 2) := by decide +kernel
theorem dL_isStep_612 : decode cL_isStep 612 = .ok (.invokevirtual 58, 3) := by decide +kernel
theorem dL_isStep_615 : decode cL_isStep 615 = .ok (.iload 9, 2) := by decide +kernel
theorem dL_isStep_617 : decode cL_isStep 617 = .ok (.iload 8, 2) := by decide +kernel
theorem dL_isStep_619 : decode cL_isStep 619 = .ok (.ifCond .eq 7, 3) := by decide +kernel
theorem dL_isStep_622 : decode cL_isStep 622 = .ok (.iconst 1, 1) := by decide +kernel
theorem dL_isStep_623 : decode cL_isStep 623 = .ok (.goto 4, 3) := by decide +kernel
theorem dL_isStep_626 : decode cL_isStep 626 = .ok (.iconst (-1), 1) := by decide +kernel
theorem dL_isStep_627 : decode cL_isStep 627 = .ok (.iadd, 1) := by decide +kernel
theorem dL_isStep_628 : decode cL_isStep 628 = .ok (.if_icmp .ne 61, 3) := by decide +kernel
theorem dL_isStep_631 : decode cL_isStep 631 = .ok (.aload_n 1, 1) := by decide +kernel
theorem dL_isStep_632 : decode cL_isStep 632 = .ok (.iload 5, 2) := by decide +kernel
theorem dL_isStep_634 : decode cL_isStep 634 = .ok (.invokestatic 52, 3) := by decide +kernel
theorem dL_isStep_637 : decode cL_isStep 637 = .ok (.iload 8, 2) := by decide +kernel
theorem dL_isStep_639 : decode cL_isStep 639 = .ok (.invokevirtual 58, 3) := by decide +kernel
theorem dL_isStep_642 : decode cL_isStep 642 = .ok (.aload_n 0, 1) := by decide +kernel
theorem dL_isStep_643 : decode cL_isStep 643 = .ok (.bipush 18, 2) := by decide +kernel
theorem dL_isStep_645 : decode cL_isStep 645 = .ok (.invokevirtual 25, 3) := by decide +kernel
theorem dL_isStep_648 : decode cL_isStep 648 = .ok (.if_icmp .ne 41, 3) := by decide +kernel
theorem dL_isStep_651 : decode cL_isStep 651 = .ok (.aload_n 0, 1) := by decide +kernel
theorem dL_isStep_652 : decode cL_isStep 652 = .ok (.iload 5, 2) := by decide +kernel
theorem dL_isStep_654 : decode cL_isStep 654 = .ok (.iload 8, 2) := by decide +kernel
theorem dL_isStep_656 : decode cL_isStep 656 = .ok (.invokevirtual 58, 3) := by decide +kernel
theorem dL_isStep_659 : decode cL_isStep 659 = .ok (.bipush (-5), 2) := by decide +kernel
theorem dL_isStep_661 : decode cL_isStep 661 = .ok (.if_icmp .ne 28, 3) := by decide +kernel
theorem dL_isStep_664 : decode cL_isStep 664 = .ok (.aload_n 0, 1) := by decide +kernel
theorem dL_isStep_665 : decode cL_isStep 665 = .ok (.iload 5, 2) := by decide +kernel
theorem dL_isStep_667 : decode cL_isStep 667 = .ok (.iconst 5, 1) := by decide +kernel
theorem dL_isStep_668 : decode cL_isStep 668 = .ok (.invokevirtual 55, 3) := by decide +kernel
theorem dL_isStep_671 : decode cL_isStep 671 = .ok (.iconst 4, 1) := by decide +kernel
theorem dL_isStep_672 : decode cL_isStep 672 = .ok (.if_icmp .ne 7, 3) := by decide +kernel
theorem dL_isStep_675 : decode cL_isStep 675 = .ok (.iconst 1, 1) := by decide +kernel
theorem dL_isStep_676 : decode cL_isStep 676 = .ok (.goto 4, 3) := by decide +kernel
theorem dL_isStep_679 : decode cL_isStep 679 = .ok (.iconst 0, 1) := by decide +kernel
theorem dL_isStep_680 : decode cL_isStep 680 = .ok (.iload 8, 2) := by decide +kernel
theorem dL_isStep_682 : decode cL_isStep 682 = .ok (.if_icmp .ne 7, 3) := by decide +kernel
theorem dL_isStep_685 : decode cL_isStep 685 = .ok (.iconst 1, 1) := by decide +kernel
theorem dL_isStep_686 : decode cL_isStep 686 = .ok (.goto 4, 3) := by decide +kernel
theorem dL_isStep_689 : decode cL_isStep 689 = .ok (.iconst 0, 1) := by decide +kernel
theorem dL_isStep_690 : decode cL_isStep 690 = .ok (.ireturn, 1) := by decide +kernel
theorem dL_isStep_691 : decode cL_isStep 691 = .ok (.iload_n 3, 1) := by decide +kernel
theorem dL_isStep_692 : decode cL_isStep 692 = .ok (.iconst 4, 1) := by decide +kernel
theorem dL_isStep_693 : decode cL_isStep 693 = .ok (.invokestatic 19, 3) := by decide +kernel
theorem dL_isStep_696 : decode cL_isStep 696 = .ok (.ifCond .le 5, 3) := by decide +kernel
theorem dL_isStep_699 : decode cL_isStep 699 = .ok (.iconst 1, 1) := by decide +kernel
theorem dL_isStep_700 : decode cL_isStep 700 = .ok (.ireturn, 1) := by decide +kernel
theorem dL_isStep_701 : decode cL_isStep 701 = .ok (.aload_n 0, 1) := by decide +kernel
theorem dL_isStep_702 : decode cL_isStep 702 = .ok (.iconst 0, 1) := by decide +kernel
theorem dL_isStep_703 : decode cL_isStep 703 = .ok (.bipush 9, 2) := by decide +kernel
theorem dL_isStep_705 : decode cL_isStep 705 = .ok (.invokevirtual 55, 3) := by decide +kernel
theorem dL_isStep_708 : decode cL_isStep 708 = .ok (.istore 8, 2) := by decide +kernel
theorem dL_isStep_710 : decode cL_isStep 710 = .ok (.aload_n 0, 1) := by decide +kernel
theorem dL_isStep_711 : decode cL_isStep 711 = .ok (.bipush 47, 2) := by decide +kernel
theorem dL_isStep_713 : decode cL_isStep 713 = .ok (.bipush 9, 2) := by decide +kernel
theorem dL_isStep_715 : decode cL_isStep 715 = .ok (.invokevirtual 55, 3) := by decide +kernel
theorem dL_isStep_718 : decode cL_isStep 718 = .ok (.istore 9, 2) := by decide +kernel
theorem dL_isStep_720 : decode cL_isStep 720 = .ok (.aload_n 0, 1) := by decide +kernel
theorem dL_isStep_721 : decode cL_isStep 721 = .ok (.bipush 17, 2) := by decide +kernel
theorem dL_isStep_723 : decode cL_isStep 723 = .ok (.invokevirtual 25, 3) := by decide +kernel
theorem dL_isStep_726 : decode cL_isStep 726 = .ok (.istore 10, 2) := by decide +kernel
theorem dL_isStep_728 : decode cL_isStep 728 = .ok (.aload_n 0, 1) := by decide +kernel
theorem dL_isStep_729 : decode cL_isStep 729 = .ok (.invokevirtual 62, 3) := by decide +kernel
theorem dL_isStep_732 : decode cL_isStep 732 = .ok (.istore 11, 2) := by decide +kernel
theorem dL_isStep_734 : decode cL_isStep 734 = .ok (.iload 11, 2) := by decide +kernel
theorem dL_isStep_736 : decode cL_isStep 736 = .ok (.aload_n 1, 1) := by decide +kernel
theorem dL_isStep_737 : decode cL_isStep 737 = .ok (.invokevirtual 62, 3) := by decide +kernel
theorem dL_isStep_740 : decode cL_isStep 740 = .ok (.if_icmp .ne 49, 3) := by decide +kernel
theorem dL_isStep_743 : decode cL_isStep 743 = .ok (.iload 11, 2) := by decide +kernel
theorem dL_isStep_745 : decode cL_isStep 745 = .ok (.bipush 48, 2) := by decide +kernel
theorem dL_isStep_747 : decode cL_isStep 747 = .ok (.iload 10, 2) := by decide +kernel
theorem dL_isStep_749 : decode cL_isStep 749 = .ok (.isub, 1) := by decide +kernel
theorem dL_isStep_750 : decode cL_isStep 750 = .ok (.if_icmp .ne 39, 3) := by decide +kernel
theorem dL_isStep_753 : decode cL_isStep 753 = .ok (.aload_n 0, 1) := by decide +kernel
theorem dL_isStep_754 : decode cL_isStep 754 = .ok (.bipush 18, 2) := by decide +kernel
theorem dL_isStep_756 : decode cL_isStep 756 = .ok (.invokevirtual 25, 3) := by decide +kernel
theorem dL_isStep_759 : decode cL_isStep 759 = .ok (.ifCond .ne 30, 3) := by decide +kernel
theorem dL_isStep_762 : decode cL_isStep 762 = .ok (.aload_n 0, 1) := by decide +kernel
theorem dL_isStep_763 : decode cL_isStep 763 = .ok (.iconst 0, 1) := by decide +kernel
theorem dL_isStep_764 : decode cL_isStep 764 = .ok (.iconst 0, 1) := by decide +kernel
theorem dL_isStep_765 : decode cL_isStep 765 = .ok (.invokevirtual 55, 3) := by decide +kernel
theorem dL_isStep_768 : decode cL_isStep 768 = .ok (.iload 8, 2) := by decide +kernel
theorem dL_isStep_770 : decode cL_isStep 770 = .ok (.if_icmp .ne 19, 3) := by decide +kernel
theorem dL_isStep_773 : decode cL_isStep 773 = .ok (.aload_n 0, 1) := by decide +kernel
theorem dL_isStep_774 : decode cL_isStep 774 = .ok (.bipush 47, 2) := by decide +kernel
theorem dL_isStep_776 : decode cL_isStep 776 = .ok (.iconst 0, 1) := by decide +kernel
theorem dL_isStep_777 : decode cL_isStep 777 = .ok (.invokevirtual 55, 3) := by decide +kernel
theorem dL_isStep_780 : decode cL_isStep 780 = .ok (.iload 9, 2) := by decide +kernel
theorem dL_isStep_782 : decode cL_isStep 782 = .ok (.if_icmp .ne 7, 3) := by decide +kernel
theorem dL_isStep_785 : decode cL_isStep 785 = .ok (.iconst 1, 1) := by decide +kernel
theorem dL_isStep_786 : decode cL_isStep 786 = .ok (.goto 4, 3) := by decide +kernel
theorem dL_isStep_789 : decode cL_isStep 789 = .ok (.iconst 0, 1) := by decide +kernel
theorem dL_isStep_790 : decode cL_isStep 790 = .ok (.ireturn, 1) := by decide +kernel
theorem dL_isStep_791 : decode cL_isStep 791 = .ok (.aload_n 0, 1) := by decide +kernel
theorem dL_isStep_792 : decode cL_isStep 792 = .ok (.aload_n 1, 1) := by decide +kernel
theorem dL_isStep_793 : decode cL_isStep 793 = .ok (.iload 6, 2) := by decide +kernel
theorem dL_isStep_795 : decode cL_isStep 795 = .ok (.iload 4, 2) := by decide +kernel
theorem dL_isStep_797 : decode cL_isStep 797 = .ok (.iconst 3, 1) := by decide +kernel
theorem dL_isStep_798 : decode cL_isStep 798 = .ok (.ishr, 1) := by decide +kernel
theorem dL_isStep_799 : decode cL_isStep 799 = .ok (.bipush 6, 2) := by decide +kernel
theorem dL_isStep_801 : decode cL_isStep 801 = .ok (.invokestatic 19, 3) := by decide +kernel
theorem dL_isStep_804 : decode cL_isStep 804 = .ok (.iload_n 3, 1) := by decide +kernel
theorem dL_isStep_805 : decode cL_isStep 805 = .ok (.iload 4, 2) := by decide +kernel
theorem dL_isStep_807 : decode cL_isStep 807 = .ok (.invokestatic 65, 3) := by decide +kernel
theorem dL_isStep_810 : decode cL_isStep 810 = .ok (.ireturn, 1) := by decide +kernel
theorem dL_isStep_811 : decode cL_isStep 811 = .ok (.aload_n 0, 1) := by decide +kernel
theorem dL_isStep_812 : decode cL_isStep 812 = .ok (.bipush 20, 2) := by decide +kernel
theorem dL_isStep_814 : decode cL_isStep 814 = .ok (.invokevirtual 25, 3) := by decide +kernel
theorem dL_isStep_817 : decode cL_isStep 817 = .ok (.ifCond .eq 14, 3) := by decide +kernel
theorem dL_isStep_820 : decode cL_isStep 820 = .ok (.aload_n 0, 1) := by decide +kernel
theorem dL_isStep_821 : decode cL_isStep 821 = .ok (.invokevirtual 69, 3) := by decide +kernel
theorem dL_isStep_824 : decode cL_isStep 824 = .ok (.aload_n 1, 1) := by decide +kernel
theorem dL_isStep_825 : decode cL_isStep 825 = .ok (.invokevirtual 69, 3) := by decide +kernel
theorem dL_isStep_828 : decode cL_isStep 828 = .ok (.if_icmp .ne 7, 3) := by decide +kernel
theorem dL_isStep_831 : decode cL_isStep 831 = .ok (.iconst 1, 1) := by decide +kernel
theorem dL_isStep_832 : decode cL_isStep 832 = .ok (.goto 4, 3) := by decide +kernel
theorem dL_isStep_835 : decode cL_isStep 835 = .ok (.iconst 0, 1) := by decide +kernel
theorem dL_isStep_836 : decode cL_isStep 836 = .ok (.ireturn, 1) := by decide +kernel
theorem dL_isStep_837 : decode cL_isStep 837 = .ok (.iload_n 3, 1) := by decide +kernel
theorem dL_isStep_838 : decode cL_isStep 838 = .ok (.iconst 2, 1) := by decide +kernel
theorem dL_isStep_839 : decode cL_isStep 839 = .ok (.invokestatic 19, 3) := by decide +kernel
theorem dL_isStep_842 : decode cL_isStep 842 = .ok (.ifCond .ne 34, 3) := by decide +kernel
theorem dL_isStep_845 : decode cL_isStep 845 = .ok (.aload_n 0, 1) := by decide +kernel
theorem dL_isStep_846 : decode cL_isStep 846 = .ok (.iload 4, 2) := by decide +kernel
theorem dL_isStep_848 : decode cL_isStep 848 = .ok (.iconst 2, 1) := by decide +kernel
theorem dL_isStep_849 : decode cL_isStep 849 = .ok (.invokestatic 19, 3) := by decide +kernel
theorem dL_isStep_852 : decode cL_isStep 852 = .ok (.invokevirtual 72, 3) := by decide +kernel
theorem dL_isStep_855 : decode cL_isStep 855 = .ok (.aload_n 1, 1) := by decide +kernel
theorem dL_isStep_856 : decode cL_isStep 856 = .ok (.iload 4, 2) := by decide +kernel
theorem dL_isStep_858 : decode cL_isStep 858 = .ok (.iconst 2, 1) := by decide +kernel
theorem dL_isStep_859 : decode cL_isStep 859 = .ok (.invokestatic 19, 3) := by decide +kernel
theorem dL_isStep_862 : decode cL_isStep 862 = .ok (.invokevirtual 72, 3) := by decide +kernel
theorem dL_isStep_865 : decode cL_isStep 865 = .ok (.if_icmp .ne 7, 3) := by decide +kernel
theorem dL_isStep_868 : decode cL_isStep 868 = .ok (.iconst 1, 1) := by decide +kernel
theorem dL_isStep_869 : decode cL_isStep 869 = .ok (.goto 35, 3) := by decide +kernel
theorem dL_isStep_872 : decode cL_isStep 872 = .ok (.iconst 0, 1) := by decide +kernel
theorem dL_isStep_873 : decode cL_isStep 873 = .ok (.goto 31, 3) := by decide +kernel
theorem dL_isStep_876 : decode cL_isStep 876 = .ok (.aload_n 0, 1) := by decide +kernel
theorem dL_isStep_877 : decode cL_isStep 877 = .ok (.iload 4, 2) := by decide +kernel
theorem dL_isStep_879 : decode cL_isStep 879 = .ok (.iconst 2, 1) := by decide +kernel
theorem dL_isStep_880 : decode cL_isStep 880 = .ok (.invokestatic 19, 3) := by decide +kernel
theorem dL_isStep_883 : decode cL_isStep 883 = .ok (.invokevirtual 75, 3) := by decide +kernel
theorem dL_isStep_886 : decode cL_isStep 886 = .ok (.aload_n 1, 1) := by decide +kernel
theorem dL_isStep_887 : decode cL_isStep 887 = .ok (.iload 4, 2) := by decide +kernel
theorem dL_isStep_889 : decode cL_isStep 889 = .ok (.iconst 2, 1) := by decide +kernel
theorem dL_isStep_890 : decode cL_isStep 890 = .ok (.invokestatic 19, 3) := by decide +kernel
theorem dL_isStep_893 : decode cL_isStep 893 = .ok (.invokevirtual 75, 3) := by decide +kernel
theorem dL_isStep_896 : decode cL_isStep 896 = .ok (.if_icmp .ne 7, 3) := by decide +kernel
theorem dL_isStep_899 : decode cL_isStep 899 = .ok (.iconst 1, 1) := by decide +kernel
theorem dL_isStep_900 : decode cL_isStep 900 = .ok (.goto 4, 3) := by decide +kernel
theorem dL_isStep_903 : decode cL_isStep 903 = .ok (.iconst 0, 1) := by decide +kernel
theorem dL_isStep_904 : decode cL_isStep 904 = .ok (.ireturn, 1) := by decide +kernel
theorem dL_isStep_905 : decode cL_isStep 905 = .ok (.aload_n 0, 1) := by decide +kernel
theorem dL_isStep_906 : decode cL_isStep 906 = .ok (.iload 5, 2) := by decide +kernel
theorem dL_isStep_908 : decode cL_isStep 908 = .ok (.iload 6, 2) := by decide +kernel
theorem dL_isStep_910 : decode cL_isStep 910 = .ok (.ifCond .eq 7, 3) := by decide +kernel
theorem dL_isStep_913 : decode cL_isStep 913 = .ok (.iconst 0, 1) := by decide +kernel
theorem dL_isStep_914 : decode cL_isStep 914 = .ok (.goto 4, 3) := by decide +kernel
theorem dL_isStep_917 : decode cL_isStep 917 = .ok (.iconst 1, 1) := by decide +kernel
theorem dL_isStep_918 : decode cL_isStep 918 = .ok (.invokevirtual 55, 3) := by decide +kernel
theorem dL_isStep_921 : decode cL_isStep 921 = .ok (.istore 8, 2) := by decide +kernel
theorem dL_isStep_923 : decode cL_isStep 923 = .ok (.aload_n 0, 1) := by decide +kernel
theorem dL_isStep_924 : decode cL_isStep 924 = .ok (.iload 6, 2) := by decide +kernel
theorem dL_isStep_926 : decode cL_isStep 926 = .ok (.iload 5, 2) := by decide +kernel
theorem dL_isStep_928 : decode cL_isStep 928 = .ok (.iload 7, 2) := by decide +kernel
theorem dL_isStep_930 : decode cL_isStep 930 = .ok (.invokevirtual 78, 3) := by decide +kernel
theorem dL_isStep_933 : decode cL_isStep 933 = .ok (.iload 8, 2) := by decide +kernel
theorem dL_isStep_935 : decode cL_isStep 935 = .ok (.if_icmp .ne 46, 3) := by decide +kernel
theorem dL_isStep_938 : decode cL_isStep 938 = .ok (.aload_n 1, 1) := by decide +kernel
theorem dL_isStep_939 : decode cL_isStep 939 = .ok (.iload 6, 2) := by decide +kernel
theorem dL_isStep_941 : decode cL_isStep 941 = .ok (.iload 5, 2) := by decide +kernel
theorem dL_isStep_943 : decode cL_isStep 943 = .ok (.invokestatic 52, 3) := by decide +kernel
theorem dL_isStep_946 : decode cL_isStep 946 = .ok (.iload 7, 2) := by decide +kernel
theorem dL_isStep_948 : decode cL_isStep 948 = .ok (.invokevirtual 78, 3) := by decide +kernel
theorem dL_isStep_951 : decode cL_isStep 951 = .ok (.iload 8, 2) := by decide +kernel
theorem dL_isStep_953 : decode cL_isStep 953 = .ok (.if_icmp .ne 28, 3) := by decide +kernel
theorem dL_isStep_956 : decode cL_isStep 956 = .ok (.aload_n 0, 1) := by decide +kernel
theorem dL_isStep_957 : decode cL_isStep 957 = .ok (.iload 5, 2) := by decide +kernel
theorem dL_isStep_959 : decode cL_isStep 959 = .ok (.iload 6, 2) := by decide +kernel
theorem dL_isStep_961 : decode cL_isStep 961 = .ok (.ifCond .eq 7, 3) := by decide +kernel
theorem dL_isStep_964 : decode cL_isStep 964 = .ok (.iconst 0, 1) := by decide +kernel
theorem dL_isStep_965 : decode cL_isStep 965 = .ok (.goto 4, 3) := by decide +kernel
theorem dL_isStep_968 : decode cL_isStep 968 = .ok (.iconst 1, 1) := by decide +kernel
theorem dL_isStep_969 : decode cL_isStep 969 = .ok (.invokevirtual 55, 3) := by decide +kernel
theorem dL_isStep_972 : decode cL_isStep 972 = .ok (.iload 7, 2) := by decide +kernel
theorem dL_isStep_974 : decode cL_isStep 974 = .ok (.if_icmp .ne 7, 3) := by decide +kernel
theorem dL_isStep_977 : decode cL_isStep 977 = .ok (.iconst 1, 1) := by decide +kernel
theorem dL_isStep_978 : decode cL_isStep 978 = .ok (.goto 4, 3) := by decide +kernel
theorem dL_isStep_981 : decode cL_isStep 981 = .ok (.iconst 0, 1) := by decide +kernel
theorem dL_isStep_982 : decode cL_isStep 982 = .ok (.ireturn, 1) := by decide +kernel
set_option maxRecDepth 20000 in
theorem ggL_areAlike_X4_bestScreen : GoodIn wsL_areAlike wsX4_bestScreen := goodIn_r _ [5, 6, 7, 8, 9, 10, 11, 12, 13, 14, 15, 16, 17, 18, 19, 20, 21, 22, 23, 24, 25, 26, 27, 28, 29, 30, 31, 32, 33, 34, 35, 36, 37, 38, 39, 40, 41, 42, 4, 43, 44, 45, 46, 47, 48, 49, 50, 51, 52, 53, 54, 55, 56, 57, 58, 59, 60, 61, 62, 63, 64, 65, 66, 67, 68, 69, 70, 71, 72, 73, 74, 75, 76, 77, 196, 197, 198, 199, 200, 201, 202, 203, 204, 205, 206, 207, 208, 209, 210, 211, 212, 213, 214, 215, 216, 217] (by decide +kernel) (by decide +kernel)
set_option maxRecDepth 20000 in
theorem gL_areAlike_X4_bestScreen : GoodIn wsL_areAlike (wsV RL 82 RX4 yX4_bestScreen wsX4_bestScreen) := goodIn_app (goodIn_of _ (by decide +kernel)) ggL_areAlike_X4_bestScreen
set_option maxRecDepth 20000 in
theorem ggL_areAlike_X4_count : GoodIn wsL_areAlike wsX4_count := goodIn_r _ [81, 7, 82, 83, 9, 84, 85, 86, 87, 88, 8, 89, 90, 91, 92, 93, 94, 95, 28, 96, 32, 33, 34, 35, 36, 37, 30, 38, 39, 40, 14, 41, 21, 24, 42, 4, 43, 44, 45, 46, 47, 48, 49, 50, 51, 52, 53, 54, 55, 56, 57, 58, 59, 60, 61, 62, 63, 64, 65, 66, 67, 68, 69, 70, 71, 72, 73, 74, 75, 76, 77, 97, 98, 99, 100, 101, 31, 102, 103, 104, 105, 106, 107, 108, 109, 110, 111, 112, 113, 114, 115, 116, 117, 118, 119, 120, 121, 122, 123, 124, 125, 126, 127, 128, 129, 130, 131, 132, 133, 134, 135, 136, 137, 138, 139, 140, 141, 142, 143, 144, 145, 146, 147, 148, 149, 150, 23, 196, 197, 198, 199, 200, 201, 202, 203, 204, 205, 206, 207, 208, 209, 210, 211, 212, 213, 214, 215, 216, 217, 218, 219, 220, 221, 222] (by decide +kernel) (by decide +kernel)
set_option maxRecDepth 20000 in
theorem gL_areAlike_X4_count : GoodIn wsL_areAlike (wsV RL 25 RX4 yX4_count wsX4_count) := goodIn_app (goodIn_of _ (by decide +kernel)) ggL_areAlike_X4_count
set_option maxRecDepth 20000 in
theorem ggL_areAlike_X4_pixel : GoodIn wsL_areAlike wsX4_pixel := goodIn_r _ [154, 83, 7, 8, 88, 155, 84, 156, 85, 86, 157, 87, 158, 42, 4, 43, 93, 94, 95, 28, 96, 32, 33, 34, 35, 36, 37, 30, 38, 39, 40, 14, 41, 21, 24, 44, 45, 46, 47, 48, 49, 50, 51, 52, 53, 54, 55, 56, 57, 58, 59, 60, 61, 62, 63, 64, 65, 66, 67, 68, 69, 70, 71, 72, 73, 74, 75, 76, 77, 97, 98, 99, 100, 101, 31, 102, 103, 104, 105, 106, 107, 108, 109, 110, 111, 112, 113, 114, 115, 116, 117, 118, 119, 120, 121, 122, 123, 124, 125, 126, 127, 128, 129, 130, 131, 132, 159, 196, 197, 198, 199, 200, 201, 202, 203, 204, 205, 206, 207, 208, 209, 210, 211, 212, 213, 214, 215, 216, 217] (by decide +kernel) (by decide +kernel)
set_option maxRecDepth 20000 in
theorem gL_areAlike_X4_pixel : GoodIn wsL_areAlike (wsV RL 55 RX4 yX4_pixel wsX4_pixel) := goodIn_app (goodIn_of _ (by decide +kernel)) ggL_areAlike_X4_pixel
set_option maxRecDepth 20000 in
theorem ggL_areAlike_L_there : GoodIn wsL_areAlike wsL_there := goodIn_r _ [163] (by decide +kernel) (by decide +kernel)
set_option maxRecDepth 20000 in
theorem gL_areAlike_L_there : GoodIn wsL_areAlike (va_wsS RL 52 yL_there wsL_there) := goodIn_app (goodIn_of _ (by decide +kernel)) ggL_areAlike_L_there
set_option maxRecDepth 20000 in
theorem ggL_areAlike_X4_bestShare : GoodIn wsL_areAlike wsX4_bestShare := goodIn_r _ [167, 6, 7, 10, 11, 12, 13, 14, 15, 16, 17, 18, 19, 20, 21, 22, 23, 24, 168, 169, 170, 171, 172, 4, 173, 93, 94, 95, 28, 96, 32, 33, 34, 35, 36, 37, 30, 38, 39, 40, 41, 42, 43, 44, 45, 46, 47, 48, 49, 50, 51, 52, 53, 54, 55, 56, 57, 58, 59, 60, 61, 62, 63, 64, 65, 66, 67, 68, 69, 70, 71, 72, 73, 74, 75, 76, 77, 97, 98, 99, 100, 101, 31, 102, 103, 104, 105, 106, 107, 108, 109, 110, 111, 112, 113, 114, 115, 116, 117, 118, 119, 120, 121, 122, 123, 124, 125, 126, 127, 128, 129, 130, 131, 132, 174, 175, 176, 177, 196, 197, 198, 199, 200, 201, 202, 203, 204, 205, 206, 207, 208, 209, 210, 211, 212, 213, 214, 215, 216, 217] (by decide +kernel) (by decide +kernel)
set_option maxRecDepth 20000 in
theorem gL_areAlike_X4_bestShare : GoodIn wsL_areAlike (wsV RL 85 RX4 yX4_bestShare wsX4_bestShare) := goodIn_app (goodIn_of _ (by decide +kernel)) ggL_areAlike_X4_bestShare
set_option maxRecDepth 20000 in
theorem ggL_areAlike_L_up : GoodIn wsL_areAlike wsL_up := goodIn_r _ [180, 181] (by decide +kernel) (by decide +kernel)
set_option maxRecDepth 20000 in
theorem gL_areAlike_L_up : GoodIn wsL_areAlike (va_wsS RL 19 yL_up wsL_up) := goodIn_app (goodIn_of _ (by decide +kernel)) ggL_areAlike_L_up
set_option maxRecDepth 20000 in
theorem ggL_areAlike_X4_ifSet : GoodIn wsL_areAlike wsX4_ifSet := goodIn_r _ [185, 6, 7, 83, 10, 87, 186, 187, 188, 4, 189, 190, 82, 191, 172, 173, 11, 12, 13, 14, 15, 16, 17, 18, 19, 20, 21, 22, 23, 24, 168, 169, 170, 171, 93, 94, 95, 28, 96, 32, 33, 34, 35, 36, 37, 30, 38, 39, 40, 41, 42, 43, 44, 45, 46, 47, 48, 49, 50, 51, 52, 53, 54, 55, 56, 57, 58, 59, 60, 61, 62, 63, 64, 65, 66, 67, 68, 69, 70, 71, 72, 73, 74, 75, 76, 77, 97, 98, 99, 100, 101, 31, 102, 103, 104, 105, 106, 107, 108, 109, 110, 111, 112, 113, 114, 115, 116, 117, 118, 119, 120, 121, 122, 123, 124, 125, 126, 127, 128, 129, 130, 131, 132, 144, 145, 146, 196, 197, 198, 199, 200, 201, 202, 208, 209, 210, 211, 212, 213, 214, 215, 216, 217, 203, 204, 205, 206, 207] (by decide +kernel) (by decide +kernel)
set_option maxRecDepth 20000 in
theorem gL_areAlike_X4_ifSet : GoodIn wsL_areAlike (wsV RL 39 RX4 yX4_ifSet wsX4_ifSet) := goodIn_app (goodIn_of _ (by decide +kernel)) ggL_areAlike_X4_ifSet
set_option maxRecDepth 20000 in
theorem ggL_areAlike_X4_leastNear : GoodIn wsL_areAlike wsX4_leastNear := goodIn_r _ [195, 7, 82, 158, 42, 4, 43, 159, 39, 40, 14, 41, 21, 24, 44, 45, 46, 47, 48, 49, 50, 51, 52, 53, 54, 55, 196, 197, 198, 199, 200, 201, 202, 203, 204, 205, 206, 207] (by decide +kernel) (by decide +kernel)
set_option maxRecDepth 20000 in
theorem gL_areAlike_X4_leastNear : GoodIn wsL_areAlike (wsV RL 88 RX4 yX4_leastNear wsX4_leastNear) := goodIn_app (goodIn_of _ (by decide +kernel)) ggL_areAlike_X4_leastNear
theorem dL_areAlike_0 : decode cL_areAlike 0 = .ok (.aload_n 0, 1) := by decide +kernel
theorem dL_areAlike_1 : decode cL_areAlike 1 = .ok (.iconst 1, 1) := by decide +kernel
theorem dL_areAlike_2 : decode cL_areAlike 2 = .ok (.invokevirtual 82, 3) := by decide +kernel
theorem dL_areAlike_5 : decode cL_areAlike 5 = .ok (.aload_n 1, 1) := by decide +kernel
theorem dL_areAlike_6 : decode cL_areAlike 6 = .ok (.iconst 1, 1) := by decide +kernel
theorem dL_areAlike_7 : decode cL_areAlike 7 = .ok (.invokevirtual 82, 3) := by decide +kernel
theorem dL_areAlike_10 : decode cL_areAlike 10 = .ok (.if_icmp .ne 7, 3) := by decide +kernel
theorem dL_areAlike_13 : decode cL_areAlike 13 = .ok (.iconst 1, 1) := by decide +kernel
theorem dL_areAlike_14 : decode cL_areAlike 14 = .ok (.goto 4, 3) := by decide +kernel
theorem dL_areAlike_17 : decode cL_areAlike 17 = .ok (.iconst 0, 1) := by decide +kernel
theorem dL_areAlike_18 : decode cL_areAlike 18 = .ok (.istore_n 3, 1) := by decide +kernel
theorem dL_areAlike_19 : decode cL_areAlike 19 = .ok (.iconst 0, 1) := by decide +kernel
theorem dL_areAlike_20 : decode cL_areAlike 20 = .ok (.istore 4, 2) := by decide +kernel
theorem dL_areAlike_22 : decode cL_areAlike 22 = .ok (.iload 4, 2) := by decide +kernel
theorem dL_areAlike_24 : decode cL_areAlike 24 = .ok (.bipush 19, 2) := by decide +kernel
theorem dL_areAlike_26 : decode cL_areAlike 26 = .ok (.if_icmp .ge 34, 3) := by decide +kernel
theorem dL_areAlike_29 : decode cL_areAlike 29 = .ok (.iload_n 3, 1) := by decide +kernel
theorem dL_areAlike_30 : decode cL_areAlike 30 = .ok (.ifCond .eq 22, 3) := by decide +kernel
theorem dL_areAlike_33 : decode cL_areAlike 33 = .ok (.aload_n 0, 1) := by decide +kernel
theorem dL_areAlike_34 : decode cL_areAlike 34 = .ok (.iload 4, 2) := by decide +kernel
theorem dL_areAlike_36 : decode cL_areAlike 36 = .ok (.invokevirtual 25, 3) := by decide +kernel
theorem dL_areAlike_39 : decode cL_areAlike 39 = .ok (.aload_n 1, 1) := by decide +kernel
theorem dL_areAlike_40 : decode cL_areAlike 40 = .ok (.iload 4, 2) := by decide +kernel
theorem dL_areAlike_42 : decode cL_areAlike 42 = .ok (.invokevirtual 25, 3) := by decide +kernel
theorem dL_areAlike_45 : decode cL_areAlike 45 = .ok (.if_icmp .ne 7, 3) := by decide +kernel
theorem dL_areAlike_48 : decode cL_areAlike 48 = .ok (.iconst 1, 1) := by decide +kernel
theorem dL_areAlike_49 : decode cL_areAlike 49 = .ok (.goto 4, 3) := by decide +kernel
theorem dL_areAlike_52 : decode cL_areAlike 52 = .ok (.iconst 0, 1) := by decide +kernel
theorem dL_areAlike_53 : decode cL_areAlike 53 = .ok (.istore_n 3, 1) := by decide +kernel
theorem dL_areAlike_54 : decode cL_areAlike 54 = .ok (.iinc 4 1, 3) := by decide +kernel
theorem dL_areAlike_57 : decode cL_areAlike 57 = .ok (.goto (-35), 3) := by decide +kernel
theorem dL_areAlike_60 : decode cL_areAlike 60 = .ok (.iconst 0, 1) := by decide +kernel
theorem dL_areAlike_61 : decode cL_areAlike 61 = .ok (.istore 4, 2) := by decide +kernel
theorem dL_areAlike_63 : decode cL_areAlike 63 = .ok (.iload 4, 2) := by decide +kernel
theorem dL_areAlike_65 : decode cL_areAlike 65 = .ok (.sipush 480, 3) := by decide +kernel
theorem dL_areAlike_68 : decode cL_areAlike 68 = .ok (.if_icmp .ge 53, 3) := by decide +kernel
theorem dL_areAlike_71 : decode cL_areAlike 71 = .ok (.iload_n 3, 1) := by decide +kernel
theorem dL_areAlike_72 : decode cL_areAlike 72 = .ok (.ifCond .eq 41, 3) := by decide +kernel
theorem dL_areAlike_75 : decode cL_areAlike 75 = .ok (.aload_n 0, 1) := by decide +kernel
theorem dL_areAlike_76 : decode cL_areAlike 76 = .ok (.iload 4, 2) := by decide +kernel
theorem dL_areAlike_78 : decode cL_areAlike 78 = .ok (.bipush 10, 2) := by decide +kernel
theorem dL_areAlike_80 : decode cL_areAlike 80 = .ok (.idiv, 1) := by decide +kernel
theorem dL_areAlike_81 : decode cL_areAlike 81 = .ok (.iload 4, 2) := by decide +kernel
theorem dL_areAlike_83 : decode cL_areAlike 83 = .ok (.bipush 10, 2) := by decide +kernel
theorem dL_areAlike_85 : decode cL_areAlike 85 = .ok (.irem, 1) := by decide +kernel
theorem dL_areAlike_86 : decode cL_areAlike 86 = .ok (.invokevirtual 55, 3) := by decide +kernel
theorem dL_areAlike_89 : decode cL_areAlike 89 = .ok (.aload_n 1, 1) := by decide +kernel
theorem dL_areAlike_90 : decode cL_areAlike 90 = .ok (.iload 4, 2) := by decide +kernel
theorem dL_areAlike_92 : decode cL_areAlike 92 = .ok (.bipush 10, 2) := by decide +kernel
theorem dL_areAlike_94 : decode cL_areAlike 94 = .ok (.idiv, 1) := by decide +kernel
theorem dL_areAlike_95 : decode cL_areAlike 95 = .ok (.invokestatic 52, 3) := by decide +kernel
theorem dL_areAlike_98 : decode cL_areAlike 98 = .ok (.iload 4, 2) := by decide +kernel
theorem dL_areAlike_100 : decode cL_areAlike 100 = .ok (.bipush 10, 2) := by decide +kernel
theorem dL_areAlike_102 : decode cL_areAlike 102 = .ok (.irem, 1) := by decide +kernel
theorem dL_areAlike_103 : decode cL_areAlike 103 = .ok (.invokevirtual 55, 3) := by decide +kernel
theorem dL_areAlike_106 : decode cL_areAlike 106 = .ok (.if_icmp .ne 7, 3) := by decide +kernel
theorem dL_areAlike_109 : decode cL_areAlike 109 = .ok (.iconst 1, 1) := by decide +kernel
theorem dL_areAlike_110 : decode cL_areAlike 110 = .ok (.goto 4, 3) := by decide +kernel
theorem dL_areAlike_113 : decode cL_areAlike 113 = .ok (.iconst 0, 1) := by decide +kernel
theorem dL_areAlike_114 : decode cL_areAlike 114 = .ok (.istore_n 3, 1) := by decide +kernel
theorem dL_areAlike_115 : decode cL_areAlike 115 = .ok (.iinc 4 1, 3) := by decide +kernel
theorem dL_areAlike_118 : decode cL_areAlike 118 = .ok (.goto (-55), 3) := by decide +kernel
theorem dL_areAlike_121 : decode cL_areAlike 121 = .ok (.iconst 2, 1) := by decide +kernel
theorem dL_areAlike_122 : decode cL_areAlike 122 = .ok (.istore 4, 2) := by decide +kernel
theorem dL_areAlike_124 : decode cL_areAlike 124 = .ok (.iload 4, 2) := by decide +kernel
theorem dL_areAlike_126 : decode cL_areAlike 126 = .ok (.iconst 5, 1) := by decide +kernel
theorem dL_areAlike_127 : decode cL_areAlike 127 = .ok (.if_icmp .ge 53, 3) := by decide +kernel
theorem dL_areAlike_130 : decode cL_areAlike 130 = .ok (.iload_n 3, 1) := by decide +kernel
theorem dL_areAlike_131 : decode cL_areAlike 131 = .ok (.ifCond .eq 41, 3) := by decide +kernel
theorem dL_areAlike_134 : decode cL_areAlike 134 = .ok (.aload_n 0, 1) := by decide +kernel
theorem dL_areAlike_135 : decode cL_areAlike 135 = .ok (.iload 4, 2) := by decide +kernel
theorem dL_areAlike_137 : decode cL_areAlike 137 = .ok (.iconst 0, 1) := by decide +kernel
theorem dL_areAlike_138 : decode cL_areAlike 138 = .ok (.invokevirtual 85, 3) := by decide +kernel
theorem dL_areAlike_141 : decode cL_areAlike 141 = .ok (.aload_n 1, 1) := by decide +kernel
theorem dL_areAlike_142 : decode cL_areAlike 142 = .ok (.iload 4, 2) := by decide +kernel
theorem dL_areAlike_144 : decode cL_areAlike 144 = .ok (.iconst 0, 1) := by decide +kernel
theorem dL_areAlike_145 : decode cL_areAlike 145 = .ok (.invokevirtual 85, 3) := by decide +kernel
theorem dL_areAlike_148 : decode cL_areAlike 148 = .ok (.if_icmp .ne 24, 3) := by decide +kernel
theorem dL_areAlike_151 : decode cL_areAlike 151 = .ok (.aload_n 0, 1) := by decide +kernel
theorem dL_areAlike_152 : decode cL_areAlike 152 = .ok (.iload 4, 2) := by decide +kernel
theorem dL_areAlike_154 : decode cL_areAlike 154 = .ok (.iconst 1, 1) := by decide +kernel
theorem dL_areAlike_155 : decode cL_areAlike 155 = .ok (.invokevirtual 85, 3) := by decide +kernel
theorem dL_areAlike_158 : decode cL_areAlike 158 = .ok (.aload_n 1, 1) := by decide +kernel
theorem dL_areAlike_159 : decode cL_areAlike 159 = .ok (.iload 4, 2) := by decide +kernel
theorem dL_areAlike_161 : decode cL_areAlike 161 = .ok (.iconst 1, 1) := by decide +kernel
theorem dL_areAlike_162 : decode cL_areAlike 162 = .ok (.invokevirtual 85, 3) := by decide +kernel
theorem dL_areAlike_165 : decode cL_areAlike 165 = .ok (.if_icmp .ne 7, 3) := by decide +kernel
theorem dL_areAlike_168 : decode cL_areAlike 168 = .ok (.iconst 1, 1) := by decide +kernel
theorem dL_areAlike_169 : decode cL_areAlike 169 = .ok (.goto 4, 3) := by decide +kernel
theorem dL_areAlike_172 : decode cL_areAlike 172 = .ok (.iconst 0, 1) := by decide +kernel
theorem dL_areAlike_173 : decode cL_areAlike 173 = .ok (.istore_n 3, 1) := by decide +kernel
theorem dL_areAlike_174 : decode cL_areAlike 174 = .ok (.iinc 4 1, 3) := by decide +kernel
theorem dL_areAlike_177 : decode cL_areAlike 177 = .ok (.goto (-53), 3) := by decide +kernel
theorem dL_areAlike_180 : decode cL_areAlike 180 = .ok (.iload_n 2, 1) := by decide +kernel
theorem dL_areAlike_181 : decode cL_areAlike 181 = .ok (.bipush 6, 2) := by decide +kernel
theorem dL_areAlike_183 : decode cL_areAlike 183 = .ok (.invokestatic 19, 3) := by decide +kernel
theorem dL_areAlike_186 : decode cL_areAlike 186 = .ok (.istore 4, 2) := by decide +kernel
theorem dL_areAlike_188 : decode cL_areAlike 188 = .ok (.iload 4, 2) := by decide +kernel
theorem dL_areAlike_190 : decode cL_areAlike 190 = .ok (.iconst 2, 1) := by decide +kernel
theorem dL_areAlike_191 : decode cL_areAlike 191 = .ok (.if_icmp .ge 14, 3) := by decide +kernel
theorem dL_areAlike_194 : decode cL_areAlike 194 = .ok (.iload_n 2, 1) := by decide +kernel
theorem dL_areAlike_195 : decode cL_areAlike 195 = .ok (.iconst 3, 1) := by decide +kernel
theorem dL_areAlike_196 : decode cL_areAlike 196 = .ok (.ishr, 1) := by decide +kernel
theorem dL_areAlike_197 : decode cL_areAlike 197 = .ok (.bipush 46, 2) := by decide +kernel
theorem dL_areAlike_199 : decode cL_areAlike 199 = .ok (.invokestatic 19, 3) := by decide +kernel
theorem dL_areAlike_202 : decode cL_areAlike 202 = .ok (.goto 27, 3) := by decide +kernel
theorem dL_areAlike_205 : decode cL_areAlike 205 = .ok (.iload 4, 2) := by decide +kernel
theorem dL_areAlike_207 : decode cL_areAlike 207 = .ok (.iconst 5, 1) := by decide +kernel
theorem dL_areAlike_208 : decode cL_areAlike 208 = .ok (.if_icmp .ge 14, 3) := by decide +kernel
theorem dL_areAlike_211 : decode cL_areAlike 211 = .ok (.iload_n 2, 1) := by decide +kernel
theorem dL_areAlike_212 : decode cL_areAlike 212 = .ok (.iconst 3, 1) := by decide +kernel
theorem dL_areAlike_213 : decode cL_areAlike 213 = .ok (.ishr, 1) := by decide +kernel
theorem dL_areAlike_214 : decode cL_areAlike 214 = .ok (.bipush 17, 2) := by decide +kernel
theorem dL_areAlike_216 : decode cL_areAlike 216 = .ok (.invokestatic 19, 3) := by decide +kernel
theorem dL_areAlike_219 : decode cL_areAlike 219 = .ok (.goto 10, 3) := by decide +kernel
theorem dL_areAlike_222 : decode cL_areAlike 222 = .ok (.iload_n 2, 1) := by decide +kernel
theorem dL_areAlike_223 : decode cL_areAlike 223 = .ok (.iconst 3, 1) := by decide +kernel
theorem dL_areAlike_224 : decode cL_areAlike 224 = .ok (.ishr, 1) := by decide +kernel
theorem dL_areAlike_225 : decode cL_areAlike 225 = .ok (.iconst 2, 1) := by decide +kernel
theorem dL_areAlike_226 : decode cL_areAlike 226 = .ok (.invokestatic 19, 3) := by decide +kernel
theorem dL_areAlike_229 : decode cL_areAlike 229 = .ok (.istore 5, 2) := by decide +kernel
theorem dL_areAlike_231 : decode cL_areAlike 231 = .ok (.iload_n 3, 1) := by decide +kernel
theorem dL_areAlike_232 : decode cL_areAlike 232 = .ok (.ifCond .eq 73, 3) := by decide +kernel
theorem dL_areAlike_235 : decode cL_areAlike 235 = .ok (.aload_n 0, 1) := by decide +kernel
theorem dL_areAlike_236 : decode cL_areAlike 236 = .ok (.iload 4, 2) := by decide +kernel
theorem dL_areAlike_238 : decode cL_areAlike 238 = .ok (.iload 5, 2) := by decide +kernel
theorem dL_areAlike_240 : decode cL_areAlike 240 = .ok (.invokevirtual 39, 3) := by decide +kernel
theorem dL_areAlike_243 : decode cL_areAlike 243 = .ok (.aload_n 1, 1) := by decide +kernel
theorem dL_areAlike_244 : decode cL_areAlike 244 = .ok (.iload 4, 2) := by decide +kernel
theorem dL_areAlike_246 : decode cL_areAlike 246 = .ok (.iload 5, 2) := by decide +kernel
theorem dL_areAlike_248 : decode cL_areAlike 248 = .ok (.invokevirtual 39, 3) := by decide +kernel
theorem dL_areAlike_251 : decode cL_areAlike 251 = .ok (.if_icmp .ne 54, 3) := by decide +kernel
theorem dL_areAlike_254 : decode cL_areAlike 254 = .ok (.aload_n 0, 1) := by decide +kernel
theorem dL_areAlike_255 : decode cL_areAlike 255 = .ok (.iload 4, 2) := by decide +kernel
theorem dL_areAlike_257 : decode cL_areAlike 257 = .ok (.aload_n 0, 1) := by decide +kernel
theorem dL_areAlike_258 : decode cL_areAlike 258 = .ok (.iload 4, 2) := by decide +kernel
theorem dL_areAlike_260 : decode cL_areAlike 260 = .ok (.invokevirtual 25, 3) := by decide +kernel
theorem dL_areAlike_263 : decode cL_areAlike 263 = .ok (.invokevirtual 39, 3) := by decide +kernel
theorem dL_areAlike_266 : decode cL_areAlike 266 = .ok (.ifCond .ne 39, 3) := by decide +kernel
theorem dL_areAlike_269 : decode cL_areAlike 269 = .ok (.aload_n 0, 1) := by decide +kernel
theorem dL_areAlike_270 : decode cL_areAlike 270 = .ok (.iload_n 2, 1) := by decide +kernel
theorem dL_areAlike_271 : decode cL_areAlike 271 = .ok (.bipush 9, 2) := by decide +kernel
theorem dL_areAlike_273 : decode cL_areAlike 273 = .ok (.ishr, 1) := by decide +kernel
theorem dL_areAlike_274 : decode cL_areAlike 274 = .ok (.bipush 48, 2) := by decide +kernel
theorem dL_areAlike_276 : decode cL_areAlike 276 = .ok (.invokestatic 19, 3) := by decide +kernel
theorem dL_areAlike_279 : decode cL_areAlike 279 = .ok (.invokevirtual 88, 3) := by decide +kernel
theorem dL_areAlike_282 : decode cL_areAlike 282 = .ok (.aload_n 1, 1) := by decide +kernel
theorem dL_areAlike_283 : decode cL_areAlike 283 = .ok (.iload_n 2, 1) := by decide +kernel
theorem dL_areAlike_284 : decode cL_areAlike 284 = .ok (.bipush 9, 2) := by decide +kernel
theorem dL_areAlike_286 : decode cL_areAlike 286 = .ok (.ishr, 1) := by decide +kernel
theorem dL_areAlike_287 : decode cL_areAlike 287 = .ok (.bipush 48, 2) := by decide +kernel
theorem dL_areAlike_289 : decode cL_areAlike 289 = .ok (.invokestatic 19, 3) := by decide +kernel
theorem dL_areAlike_292 : decode cL_areAlike 292 = .ok (.invokestatic 52, 3) := by decide +kernel
theorem dL_areAlike_295 : decode cL_areAlike 295 = .ok (.invokevirtual 88, 3) := by decide +kernel
theorem dL_areAlike_298 : decode cL_areAlike 298 = .ok (.if_icmp .ne 7, 3) := by decide +kernel
theorem dL_areAlike_301 : decode cL_areAlike 301 = .ok (.iconst 1, 1) := by decide +kernel
theorem dL_areAlike_302 : decode cL_areAlike 302 = .ok (.goto 4, 3) := by decide +kernel
theorem dL_areAlike_305 : decode cL_areAlike 305 = .ok (.iconst 0, 1) := by decide +kernel
theorem dL_areAlike_306 : decode cL_areAlike 306 = .ok (.ireturn, 1) := by decide +kernel
set_option maxRecDepth 20000 in
theorem ggL_isWell_X4_pixel : GoodIn wsL_isWell wsX4_pixel := goodIn_r _ [5, 6, 7, 8, 9, 10, 11, 12, 13, 14, 15, 16, 17, 18, 4, 19, 20, 21, 22, 23, 24, 25, 26, 27, 28, 29, 30, 31, 32, 33, 34, 35, 36, 37, 38, 39, 40, 41, 42, 43, 44, 45, 46, 47, 48, 49, 50, 51, 52, 53, 54, 55, 56, 57, 58, 59, 60, 61, 62, 63, 64, 65, 66, 67, 68, 69, 70, 71, 72, 73, 74, 75, 76, 77, 78, 79, 80, 81, 82, 83, 84, 85, 86, 87, 88, 89, 90, 91, 92, 93, 94, 95, 96, 97, 98, 99, 100, 101, 102, 103, 104, 105, 106, 107, 108, 109, 110, 147, 148, 149, 150, 151, 152, 153, 154, 155, 156, 157, 158, 159, 160, 161, 162, 163, 164, 165, 166, 167, 168] (by decide +kernel) (by decide +kernel)
set_option maxRecDepth 20000 in
theorem gL_isWell_X4_pixel : GoodIn wsL_isWell (wsV RL 55 RX4 yX4_pixel wsX4_pixel) := goodIn_app (goodIn_of _ (by decide +kernel)) ggL_isWell_X4_pixel
set_option maxRecDepth 20000 in
theorem ggL_isWell_X4_count : GoodIn wsL_isWell wsX4_count := goodIn_r _ [114, 7, 115, 6, 116, 11, 13, 14, 16, 9, 8, 117, 118, 119, 120, 20, 21, 22, 23, 24, 25, 26, 27, 28, 29, 30, 31, 32, 33, 34, 35, 36, 37, 38, 18, 4, 19, 39, 40, 41, 42, 43, 44, 45, 46, 47, 48, 49, 50, 51, 52, 53, 54, 55, 56, 57, 58, 59, 60, 61, 62, 63, 64, 65, 66, 67, 68, 69, 70, 71, 72, 73, 74, 75, 76, 77, 78, 79, 80, 81, 82, 83, 84, 85, 86, 87, 88, 89, 90, 91, 92, 93, 94, 95, 96, 97, 98, 99, 100, 101, 102, 103, 104, 105, 106, 107, 108, 109, 121, 122, 123, 124, 125, 126, 127, 128, 129, 130, 131, 132, 133, 134, 135, 136, 137, 138, 139, 147, 148, 149, 150, 151, 152, 153, 154, 155, 156, 157, 158, 159, 160, 161, 162, 163, 164, 165, 166, 167, 168, 169, 170, 171, 172, 173] (by decide +kernel) (by decide +kernel)
set_option maxRecDepth 20000 in
theorem gL_isWell_X4_count : GoodIn wsL_isWell (wsV RL 25 RX4 yX4_count wsX4_count) := goodIn_app (goodIn_of _ (by decide +kernel)) ggL_isWell_X4_count
set_option maxRecDepth 20000 in
theorem ggL_isWell_X4_row : GoodIn wsL_isWell wsX4_row := goodIn_r _ [143, 6, 7, 12, 144, 145, 4, 146, 20, 21, 22, 23, 24, 25, 26, 27, 28, 29, 30, 31, 32, 33, 34, 35, 36, 37, 38, 18, 19, 39, 40, 41, 42, 43, 44, 45, 46, 47, 48, 49, 50, 51, 52, 53, 54, 55, 56, 57, 58, 59, 60, 61, 62, 63, 64, 65, 66, 67, 68, 69, 70, 71, 72, 73, 74, 75, 76, 77, 78, 79, 80, 81, 82, 83, 84, 85, 86, 87, 88, 89, 90, 91, 92, 93, 94, 95, 96, 97, 98, 99, 100, 101, 102, 103, 104, 105, 106, 107, 108, 109, 147, 148, 149, 150, 151, 152, 153, 159, 160, 161, 162, 163, 164, 165, 166, 167, 168, 154, 155, 156, 157, 158] (by decide +kernel) (by decide +kernel)
set_option maxRecDepth 20000 in
theorem gL_isWell_X4_row : GoodIn wsL_isWell (wsV RL 91 RX4 yX4_row wsX4_row) := goodIn_app (goodIn_of _ (by decide +kernel)) ggL_isWell_X4_row
theorem dL_isWell_0 : decode cL_isWell 0 = .ok (.iconst 0, 1) := by decide +kernel
theorem dL_isWell_1 : decode cL_isWell 1 = .ok (.istore_n 1, 1) := by decide +kernel
theorem dL_isWell_2 : decode cL_isWell 2 = .ok (.iconst 0, 1) := by decide +kernel
theorem dL_isWell_3 : decode cL_isWell 3 = .ok (.istore_n 2, 1) := by decide +kernel
theorem dL_isWell_4 : decode cL_isWell 4 = .ok (.iconst 0, 1) := by decide +kernel
theorem dL_isWell_5 : decode cL_isWell 5 = .ok (.istore_n 3, 1) := by decide +kernel
theorem dL_isWell_6 : decode cL_isWell 6 = .ok (.iconst 0, 1) := by decide +kernel
theorem dL_isWell_7 : decode cL_isWell 7 = .ok (.istore 4, 2) := by decide +kernel
theorem dL_isWell_9 : decode cL_isWell 9 = .ok (.iconst 0, 1) := by decide +kernel
theorem dL_isWell_10 : decode cL_isWell 10 = .ok (.istore 5, 2) := by decide +kernel
theorem dL_isWell_12 : decode cL_isWell 12 = .ok (.iconst 1, 1) := by decide +kernel
theorem dL_isWell_13 : decode cL_isWell 13 = .ok (.istore 6, 2) := by decide +kernel
theorem dL_isWell_15 : decode cL_isWell 15 = .ok (.iconst 0, 1) := by decide +kernel
theorem dL_isWell_16 : decode cL_isWell 16 = .ok (.istore 7, 2) := by decide +kernel
theorem dL_isWell_18 : decode cL_isWell 18 = .ok (.iload 7, 2) := by decide +kernel
theorem dL_isWell_20 : decode cL_isWell 20 = .ok (.bipush 48, 2) := by decide +kernel
theorem dL_isWell_22 : decode cL_isWell 22 = .ok (.if_icmp .ge 412, 3) := by decide +kernel
theorem dL_isWell_25 : decode cL_isWell 25 = .ok (.aload_n 0, 1) := by decide +kernel
theorem dL_isWell_26 : decode cL_isWell 26 = .ok (.iload 7, 2) := by decide +kernel
theorem dL_isWell_28 : decode cL_isWell 28 = .ok (.iconst 3, 1) := by decide +kernel
theorem dL_isWell_29 : decode cL_isWell 29 = .ok (.invokevirtual 55, 3) := by decide +kernel
theorem dL_isWell_32 : decode cL_isWell 32 = .ok (.istore 8, 2) := by decide +kernel
theorem dL_isWell_34 : decode cL_isWell 34 = .ok (.aload_n 0, 1) := by decide +kernel
theorem dL_isWell_35 : decode cL_isWell 35 = .ok (.iload 7, 2) := by decide +kernel
theorem dL_isWell_37 : decode cL_isWell 37 = .ok (.iconst 4, 1) := by decide +kernel
theorem dL_isWell_38 : decode cL_isWell 38 = .ok (.invokevirtual 55, 3) := by decide +kernel
theorem dL_isWell_41 : decode cL_isWell 41 = .ok (.istore 9, 2) := by decide +kernel
theorem dL_isWell_43 : decode cL_isWell 43 = .ok (.aload_n 0, 1) := by decide +kernel
theorem dL_isWell_44 : decode cL_isWell 44 = .ok (.iload 7, 2) := by decide +kernel
theorem dL_isWell_46 : decode cL_isWell 46 = .ok (.iconst 5, 1) := by decide +kernel
theorem dL_isWell_47 : decode cL_isWell 47 = .ok (.invokevirtual 55, 3) := by decide +kernel
theorem dL_isWell_50 : decode cL_isWell 50 = .ok (.istore 10, 2) := by decide +kernel
theorem dL_isWell_52 : decode cL_isWell 52 = .ok (.aload_n 0, 1) := by decide +kernel
theorem dL_isWell_53 : decode cL_isWell 53 = .ok (.iload 7, 2) := by decide +kernel
theorem dL_isWell_55 : decode cL_isWell 55 = .ok (.bipush 7, 2) := by decide +kernel
theorem dL_isWell_57 : decode cL_isWell 57 = .ok (.invokevirtual 55, 3) := by decide +kernel
theorem dL_isWell_60 : decode cL_isWell 60 = .ok (.istore 11, 2) := by decide +kernel
theorem dL_isWell_62 : decode cL_isWell 62 = .ok (.aload_n 0, 1) := by decide +kernel
theorem dL_isWell_63 : decode cL_isWell 63 = .ok (.iload 7, 2) := by decide +kernel
theorem dL_isWell_65 : decode cL_isWell 65 = .ok (.iconst 2, 1) := by decide +kernel
theorem dL_isWell_66 : decode cL_isWell 66 = .ok (.invokevirtual 55, 3) := by decide +kernel
theorem dL_isWell_69 : decode cL_isWell 69 = .ok (.istore 12, 2) := by decide +kernel
theorem dL_isWell_71 : decode cL_isWell 71 = .ok (.iload_n 1, 1) := by decide +kernel
theorem dL_isWell_72 : decode cL_isWell 72 = .ok (.iload 9, 2) := by decide +kernel
theorem dL_isWell_74 : decode cL_isWell 74 = .ok (.iadd, 1) := by decide +kernel
theorem dL_isWell_75 : decode cL_isWell 75 = .ok (.istore_n 1, 1) := by decide +kernel
theorem dL_isWell_76 : decode cL_isWell 76 = .ok (.iload_n 2, 1) := by decide +kernel
theorem dL_isWell_77 : decode cL_isWell 77 = .ok (.aload_n 0, 1) := by decide +kernel
theorem dL_isWell_78 : decode cL_isWell 78 = .ok (.iload 7, 2) := by decide +kernel
theorem dL_isWell_80 : decode cL_isWell 80 = .ok (.bipush 6, 2) := by decide +kernel
theorem dL_isWell_82 : decode cL_isWell 82 = .ok (.invokevirtual 55, 3) := by decide +kernel
theorem dL_isWell_85 : decode cL_isWell 85 = .ok (.iadd, 1) := by decide +kernel
theorem dL_isWell_86 : decode cL_isWell 86 = .ok (.istore_n 2, 1) := by decide +kernel
theorem dL_isWell_87 : decode cL_isWell 87 = .ok (.iload_n 3, 1) := by decide +kernel
theorem dL_isWell_88 : decode cL_isWell 88 = .ok (.iload 11, 2) := by decide +kernel
theorem dL_isWell_90 : decode cL_isWell 90 = .ok (.iadd, 1) := by decide +kernel
theorem dL_isWell_91 : decode cL_isWell 91 = .ok (.istore_n 3, 1) := by decide +kernel
theorem dL_isWell_92 : decode cL_isWell 92 = .ok (.iload 4, 2) := by decide +kernel
theorem dL_isWell_94 : decode cL_isWell 94 = .ok (.iload 9, 2) := by decide +kernel
theorem dL_isWell_96 : decode cL_isWell 96 = .ok (.iload 8, 2) := by decide +kernel
theorem dL_isWell_98 : decode cL_isWell 98 = .ok (.if_icmp .ne 7, 3) := by decide +kernel
theorem dL_isWell_101 : decode cL_isWell 101 = .ok (.iconst 0, 1) := by decide +kernel
theorem dL_isWell_102 : decode cL_isWell 102 = .ok (.goto 4, 3) := by decide +kernel
theorem dL_isWell_105 : decode cL_isWell 105 = .ok (.iconst 1, 1) := by decide +kernel
theorem dL_isWell_106 : decode cL_isWell 106 = .ok (.iadd, 1) := by decide +kernel
theorem dL_isWell_107 : decode cL_isWell 107 = .ok (.istore 4, 2) := by decide +kernel
theorem dL_isWell_109 : decode cL_isWell 109 = .ok (.iload 6, 2) := by decide +kernel
theorem dL_isWell_111 : decode cL_isWell 111 = .ok (.ifCond .eq 110, 3) := by decide +kernel
theorem dL_isWell_114 : decode cL_isWell 114 = .ok (.iload 9, 2) := by decide +kernel
theorem dL_isWell_116 : decode cL_isWell 116 = .ok (.iload 8, 2) := by decide +kernel
theorem dL_isWell_118 : decode cL_isWell 118 = .ok (.if_icmp .eq 58, 3) := by decide +kernel
theorem dL_isWell_121 : decode cL_isWell 121 = .ok (.iload 9, 2) := by decide +kernel
theorem dL_isWell_123 : decode cL_isWell 123 = .ok (.bipush 16, 2) := by decide +kernel
theorem dL_isWell_125 : decode cL_isWell 125 = .ok (.if_icmp .ne 96, 3) := by decide +kernel
theorem dL_isWell_128 : decode cL_isWell 128 = .ok (.iload 8, 2) := by decide +kernel
theorem dL_isWell_130 : decode cL_isWell 130 = .ok (.bipush 16, 2) := by decide +kernel
theorem dL_isWell_132 : decode cL_isWell 132 = .ok (.if_icmp .ge 89, 3) := by decide +kernel
theorem dL_isWell_135 : decode cL_isWell 135 = .ok (.aload_n 0, 1) := by decide +kernel
theorem dL_isWell_136 : decode cL_isWell 136 = .ok (.iconst 5, 1) := by decide +kernel
theorem dL_isWell_137 : decode cL_isWell 137 = .ok (.invokevirtual 25, 3) := by decide +kernel
theorem dL_isWell_140 : decode cL_isWell 140 = .ok (.iconst 1, 1) := by decide +kernel
theorem dL_isWell_141 : decode cL_isWell 141 = .ok (.if_icmp .ne 80, 3) := by decide +kernel
theorem dL_isWell_144 : decode cL_isWell 144 = .ok (.iload 7, 2) := by decide +kernel
theorem dL_isWell_146 : decode cL_isWell 146 = .ok (.bipush 7, 2) := by decide +kernel
theorem dL_isWell_148 : decode cL_isWell 148 = .ok (.if_icmp .le 73, 3) := by decide +kernel
theorem dL_isWell_151 : decode cL_isWell 151 = .ok (.iload 7, 2) := by decide +kernel
theorem dL_isWell_153 : decode cL_isWell 153 = .ok (.bipush 40, 2) := by decide +kernel
theorem dL_isWell_155 : decode cL_isWell 155 = .ok (.if_icmp .ge 66, 3) := by decide +kernel
theorem dL_isWell_158 : decode cL_isWell 158 = .ok (.iload 7, 2) := by decide +kernel
theorem dL_isWell_160 : decode cL_isWell 160 = .ok (.bipush 8, 2) := by decide +kernel
theorem dL_isWell_162 : decode cL_isWell 162 = .ok (.irem, 1) := by decide +kernel
theorem dL_isWell_163 : decode cL_isWell 163 = .ok (.ifCond .le 58, 3) := by decide +kernel
theorem dL_isWell_166 : decode cL_isWell 166 = .ok (.iload 7, 2) := by decide +kernel
theorem dL_isWell_168 : decode cL_isWell 168 = .ok (.bipush 8, 2) := by decide +kernel
theorem dL_isWell_170 : decode cL_isWell 170 = .ok (.irem, 1) := by decide +kernel
theorem dL_isWell_171 : decode cL_isWell 171 = .ok (.bipush 7, 2) := by decide +kernel
theorem dL_isWell_173 : decode cL_isWell 173 = .ok (.if_icmp .ge 48, 3) := by decide +kernel
theorem dL_isWell_176 : decode cL_isWell 176 = .ok (.iload 11, 2) := by decide +kernel
theorem dL_isWell_178 : decode cL_isWell 178 = .ok (.ifCond .lt 43, 3) := by decide +kernel
theorem dL_isWell_181 : decode cL_isWell 181 = .ok (.iload 11, 2) := by decide +kernel
theorem dL_isWell_183 : decode cL_isWell 183 = .ok (.aload_n 0, 1) := by decide +kernel
theorem dL_isWell_184 : decode cL_isWell 184 = .ok (.iload 7, 2) := by decide +kernel
theorem dL_isWell_186 : decode cL_isWell 186 = .ok (.bipush 6, 2) := by decide +kernel
theorem dL_isWell_188 : decode cL_isWell 188 = .ok (.invokevirtual 55, 3) := by decide +kernel
theorem dL_isWell_191 : decode cL_isWell 191 = .ok (.if_icmp .gt 30, 3) := by decide +kernel
theorem dL_isWell_194 : decode cL_isWell 194 = .ok (.aload_n 0, 1) := by decide +kernel
theorem dL_isWell_195 : decode cL_isWell 195 = .ok (.iload 7, 2) := by decide +kernel
theorem dL_isWell_197 : decode cL_isWell 197 = .ok (.bipush 8, 2) := by decide +kernel
theorem dL_isWell_199 : decode cL_isWell 199 = .ok (.idiv, 1) := by decide +kernel
theorem dL_isWell_200 : decode cL_isWell 200 = .ok (.iload 10, 2) := by decide +kernel
theorem dL_isWell_202 : decode cL_isWell 202 = .ok (.invokevirtual 91, 3) := by decide +kernel
theorem dL_isWell_205 : decode cL_isWell 205 = .ok (.iload 7, 2) := by decide +kernel
theorem dL_isWell_207 : decode cL_isWell 207 = .ok (.bipush 8, 2) := by decide +kernel
theorem dL_isWell_209 : decode cL_isWell 209 = .ok (.irem, 1) := by decide +kernel
theorem dL_isWell_210 : decode cL_isWell 210 = .ok (.ishr, 1) := by decide +kernel
theorem dL_isWell_211 : decode cL_isWell 211 = .ok (.iconst 1, 1) := by decide +kernel
theorem dL_isWell_212 : decode cL_isWell 212 = .ok (.iand, 1) := by decide +kernel
theorem dL_isWell_213 : decode cL_isWell 213 = .ok (.iconst 1, 1) := by decide +kernel
theorem dL_isWell_214 : decode cL_isWell 214 = .ok (.if_icmp .ne 7, 3) := by decide +kernel
theorem dL_isWell_217 : decode cL_isWell 217 = .ok (.iconst 1, 1) := by decide +kernel
theorem dL_isWell_218 : decode cL_isWell 218 = .ok (.goto 4, 3) := by decide +kernel
theorem dL_isWell_221 : decode cL_isWell 221 = .ok (.iconst 0, 1) := by decide +kernel
theorem dL_isWell_222 : decode cL_isWell 222 = .ok (.istore 6, 2) := by decide +kernel
theorem dL_isWell_224 : decode cL_isWell 224 = .ok (.iload 6, 2) := by decide +kernel
theorem dL_isWell_226 : decode cL_isWell 226 = .ok (.ifCond .eq 129, 3) := by decide +kernel
theorem dL_isWell_229 : decode cL_isWell 229 = .ok (.iload 12, 2) := by decide +kernel
theorem dL_isWell_231 : decode cL_isWell 231 = .ok (.aload_n 0, 1) := by decide +kernel
theorem dL_isWell_232 : decode cL_isWell 232 = .ok (.iconst 0, 1) := by decide +kernel
theorem dL_isWell_233 : decode cL_isWell 233 = .ok (.invokevirtual 25, 3) := by decide +kernel
theorem dL_isWell_236 : decode cL_isWell 236 = .ok (.if_icmp .gt 11, 3) := by decide +kernel
theorem dL_isWell_239 : decode cL_isWell 239 = .ok (.iload 8, 2) := by decide +kernel
theorem dL_isWell_241 : decode cL_isWell 241 = .ok (.ifCond .ne 114, 3) := by decide +kernel
theorem dL_isWell_244 : decode cL_isWell 244 = .ok (.goto 35, 3) := by decide +kernel
theorem dL_isWell_247 : decode cL_isWell 247 = .ok (.iload 12, 2) := by decide +kernel
theorem dL_isWell_249 : decode cL_isWell 249 = .ok (.aload_n 0, 1) := by decide +kernel
theorem dL_isWell_250 : decode cL_isWell 250 = .ok (.iconst 1, 1) := by decide +kernel
theorem dL_isWell_251 : decode cL_isWell 251 = .ok (.invokevirtual 25, 3) := by decide +kernel
theorem dL_isWell_254 : decode cL_isWell 254 = .ok (.if_icmp .lt 13, 3) := by decide +kernel
theorem dL_isWell_257 : decode cL_isWell 257 = .ok (.iload 8, 2) := by decide +kernel
theorem dL_isWell_259 : decode cL_isWell 259 = .ok (.bipush 16, 2) := by decide +kernel
theorem dL_isWell_261 : decode cL_isWell 261 = .ok (.if_icmp .ne 94, 3) := by decide +kernel
theorem dL_isWell_264 : decode cL_isWell 264 = .ok (.goto 15, 3) := by decide +kernel
theorem dL_isWell_267 : decode cL_isWell 267 = .ok (.iload 8, 2) := by decide +kernel
theorem dL_isWell_269 : decode cL_isWell 269 = .ok (.ifCond .lt 86, 3) := by decide +kernel
theorem dL_isWell_272 : decode cL_isWell 272 = .ok (.iload 8, 2) := by decide +kernel
theorem dL_isWell_274 : decode cL_isWell 274 = .ok (.bipush 16, 2) := by decide +kernel
theorem dL_isWell_276 : decode cL_isWell 276 = .ok (.if_icmp .ge 79, 3) := by decide +kernel
theorem dL_isWell_279 : decode cL_isWell 279 = .ok (.iload 9, 2) := by decide +kernel
theorem dL_isWell_281 : decode cL_isWell 281 = .ok (.ifCond .gt 21, 3) := by decide +kernel
theorem dL_isWell_284 : decode cL_isWell 284 = .ok (.aload_n 0, 1) := by decide +kernel
theorem dL_isWell_285 : decode cL_isWell 285 = .ok (.iload 7, 2) := by decide +kernel
theorem dL_isWell_287 : decode cL_isWell 287 = .ok (.bipush 9, 2) := by decide +kernel
theorem dL_isWell_289 : decode cL_isWell 289 = .ok (.invokevirtual 55, 3) := by decide +kernel
theorem dL_isWell_292 : decode cL_isWell 292 = .ok (.aload_n 0, 1) := by decide +kernel
theorem dL_isWell_293 : decode cL_isWell 293 = .ok (.iload 7, 2) := by decide +kernel
theorem dL_isWell_295 : decode cL_isWell 295 = .ok (.iconst 1, 1) := by decide +kernel
theorem dL_isWell_296 : decode cL_isWell 296 = .ok (.invokevirtual 55, 3) := by decide +kernel
theorem dL_isWell_299 : decode cL_isWell 299 = .ok (.if_icmp .ne 56, 3) := by decide +kernel
theorem dL_isWell_302 : decode cL_isWell 302 = .ok (.iload 9, 2) := by decide +kernel
theorem dL_isWell_304 : decode cL_isWell 304 = .ok (.bipush 16, 2) := by decide +kernel
theorem dL_isWell_306 : decode cL_isWell 306 = .ok (.if_icmp .lt 22, 3) := by decide +kernel
theorem dL_isWell_309 : decode cL_isWell 309 = .ok (.aload_n 0, 1) := by decide +kernel
theorem dL_isWell_310 : decode cL_isWell 310 = .ok (.iload 7, 2) := by decide +kernel
theorem dL_isWell_312 : decode cL_isWell 312 = .ok (.bipush 9, 2) := by decide +kernel
theorem dL_isWell_314 : decode cL_isWell 314 = .ok (.invokevirtual 55, 3) := by decide +kernel
theorem dL_isWell_317 : decode cL_isWell 317 = .ok (.aload_n 0, 1) := by decide +kernel
theorem dL_isWell_318 : decode cL_isWell 318 = .ok (.iload 7, 2) := by decide +kernel
theorem dL_isWell_320 : decode cL_isWell 320 = .ok (.bipush 8, 2) := by decide +kernel
theorem dL_isWell_322 : decode cL_isWell 322 = .ok (.invokevirtual 55, 3) := by decide +kernel
theorem dL_isWell_325 : decode cL_isWell 325 = .ok (.if_icmp .ne 30, 3) := by decide +kernel
theorem dL_isWell_328 : decode cL_isWell 328 = .ok (.iload 11, 2) := by decide +kernel
theorem dL_isWell_330 : decode cL_isWell 330 = .ok (.ifCond .gt 21, 3) := by decide +kernel
theorem dL_isWell_333 : decode cL_isWell 333 = .ok (.aload_n 0, 1) := by decide +kernel
theorem dL_isWell_334 : decode cL_isWell 334 = .ok (.iload 7, 2) := by decide +kernel
theorem dL_isWell_336 : decode cL_isWell 336 = .ok (.bipush 8, 2) := by decide +kernel
theorem dL_isWell_338 : decode cL_isWell 338 = .ok (.invokevirtual 55, 3) := by decide +kernel
theorem dL_isWell_341 : decode cL_isWell 341 = .ok (.aload_n 0, 1) := by decide +kernel
theorem dL_isWell_342 : decode cL_isWell 342 = .ok (.iload 7, 2) := by decide +kernel
theorem dL_isWell_344 : decode cL_isWell 344 = .ok (.iconst 0, 1) := by decide +kernel
theorem dL_isWell_345 : decode cL_isWell 345 = .ok (.invokevirtual 55, 3) := by decide +kernel
theorem dL_isWell_348 : decode cL_isWell 348 = .ok (.if_icmp .ne 7, 3) := by decide +kernel
theorem dL_isWell_351 : decode cL_isWell 351 = .ok (.iconst 1, 1) := by decide +kernel
theorem dL_isWell_352 : decode cL_isWell 352 = .ok (.goto 4, 3) := by decide +kernel
theorem dL_isWell_355 : decode cL_isWell 355 = .ok (.iconst 0, 1) := by decide +kernel
theorem dL_isWell_356 : decode cL_isWell 356 = .ok (.istore 6, 2) := by decide +kernel
theorem dL_isWell_358 : decode cL_isWell 358 = .ok (.iload 6, 2) := by decide +kernel
theorem dL_isWell_360 : decode cL_isWell 360 = .ok (.ifCond .eq 65, 3) := by decide +kernel
theorem dL_isWell_363 : decode cL_isWell 363 = .ok (.iload 10, 2) := by decide +kernel
theorem dL_isWell_365 : decode cL_isWell 365 = .ok (.iconst 4, 1) := by decide +kernel
theorem dL_isWell_366 : decode cL_isWell 366 = .ok (.if_icmp .eq 55, 3) := by decide +kernel
theorem dL_isWell_369 : decode cL_isWell 369 = .ok (.iload 10, 2) := by decide +kernel
theorem dL_isWell_371 : decode cL_isWell 371 = .ok (.ifCond .ne 13, 3) := by decide +kernel
theorem dL_isWell_374 : decode cL_isWell 374 = .ok (.iload 9, 2) := by decide +kernel
theorem dL_isWell_376 : decode cL_isWell 376 = .ok (.ifCond .ne 8, 3) := by decide +kernel
theorem dL_isWell_379 : decode cL_isWell 379 = .ok (.iload 11, 2) := by decide +kernel
theorem dL_isWell_381 : decode cL_isWell 381 = .ok (.ifCond .eq 40, 3) := by decide +kernel
theorem dL_isWell_384 : decode cL_isWell 384 = .ok (.iload 10, 2) := by decide +kernel
theorem dL_isWell_386 : decode cL_isWell 386 = .ok (.iconst 3, 1) := by decide +kernel
theorem dL_isWell_387 : decode cL_isWell 387 = .ok (.if_icmp .ne 10, 3) := by decide +kernel
theorem dL_isWell_390 : decode cL_isWell 390 = .ok (.iload 9, 2) := by decide +kernel
theorem dL_isWell_392 : decode cL_isWell 392 = .ok (.bipush 16, 2) := by decide +kernel
theorem dL_isWell_394 : decode cL_isWell 394 = .ok (.if_icmp .eq 27, 3) := by decide +kernel
theorem dL_isWell_397 : decode cL_isWell 397 = .ok (.iload 10, 2) := by decide +kernel
theorem dL_isWell_399 : decode cL_isWell 399 = .ok (.iconst 1, 1) := by decide +kernel
theorem dL_isWell_400 : decode cL_isWell 400 = .ok (.if_icmp .eq 9, 3) := by decide +kernel
theorem dL_isWell_403 : decode cL_isWell 403 = .ok (.iload 10, 2) := by decide +kernel
theorem dL_isWell_405 : decode cL_isWell 405 = .ok (.iconst 2, 1) := by decide +kernel
theorem dL_isWell_406 : decode cL_isWell 406 = .ok (.if_icmp .ne 19, 3) := by decide +kernel
theorem dL_isWell_409 : decode cL_isWell 409 = .ok (.iload 9, 2) := by decide +kernel
theorem dL_isWell_411 : decode cL_isWell 411 = .ok (.ifCond .le 14, 3) := by decide +kernel
theorem dL_isWell_414 : decode cL_isWell 414 = .ok (.iload 9, 2) := by decide +kernel
theorem dL_isWell_416 : decode cL_isWell 416 = .ok (.bipush 16, 2) := by decide +kernel
theorem dL_isWell_418 : decode cL_isWell 418 = .ok (.if_icmp .ge 7, 3) := by decide +kernel
theorem dL_isWell_421 : decode cL_isWell 421 = .ok (.iconst 1, 1) := by decide +kernel
theorem dL_isWell_422 : decode cL_isWell 422 = .ok (.goto 4, 3) := by decide +kernel
theorem dL_isWell_425 : decode cL_isWell 425 = .ok (.iconst 0, 1) := by decide +kernel
theorem dL_isWell_426 : decode cL_isWell 426 = .ok (.istore 6, 2) := by decide +kernel
theorem dL_isWell_428 : decode cL_isWell 428 = .ok (.iinc 7 1, 3) := by decide +kernel
theorem dL_isWell_431 : decode cL_isWell 431 = .ok (.goto (-413), 3) := by decide +kernel
theorem dL_isWell_434 : decode cL_isWell 434 = .ok (.iconst 0, 1) := by decide +kernel
theorem dL_isWell_435 : decode cL_isWell 435 = .ok (.istore 7, 2) := by decide +kernel
theorem dL_isWell_437 : decode cL_isWell 437 = .ok (.iload 7, 2) := by decide +kernel
theorem dL_isWell_439 : decode cL_isWell 439 = .ok (.iconst 5, 1) := by decide +kernel
theorem dL_isWell_440 : decode cL_isWell 440 = .ok (.if_icmp .ge 23, 3) := by decide +kernel
theorem dL_isWell_443 : decode cL_isWell 443 = .ok (.iload 5, 2) := by decide +kernel
theorem dL_isWell_445 : decode cL_isWell 445 = .ok (.aload_n 0, 1) := by decide +kernel
theorem dL_isWell_446 : decode cL_isWell 446 = .ok (.bipush 7, 2) := by decide +kernel
theorem dL_isWell_448 : decode cL_isWell 448 = .ok (.iload 7, 2) := by decide +kernel
theorem dL_isWell_450 : decode cL_isWell 450 = .ok (.iadd, 1) := by decide +kernel
theorem dL_isWell_451 : decode cL_isWell 451 = .ok (.invokevirtual 25, 3) := by decide +kernel
theorem dL_isWell_454 : decode cL_isWell 454 = .ok (.iadd, 1) := by decide +kernel
theorem dL_isWell_455 : decode cL_isWell 455 = .ok (.istore 5, 2) := by decide +kernel
theorem dL_isWell_457 : decode cL_isWell 457 = .ok (.iinc 7 1, 3) := by decide +kernel
theorem dL_isWell_460 : decode cL_isWell 460 = .ok (.goto (-23), 3) := by decide +kernel
theorem dL_isWell_463 : decode cL_isWell 463 = .ok (.iload 6, 2) := by decide +kernel
theorem dL_isWell_465 : decode cL_isWell 465 = .ok (.ifCond .eq 83, 3) := by decide +kernel
theorem dL_isWell_468 : decode cL_isWell 468 = .ok (.iload_n 1, 1) := by decide +kernel
theorem dL_isWell_469 : decode cL_isWell 469 = .ok (.aload_n 0, 1) := by decide +kernel
theorem dL_isWell_470 : decode cL_isWell 470 = .ok (.bipush 12, 2) := by decide +kernel
theorem dL_isWell_472 : decode cL_isWell 472 = .ok (.invokevirtual 25, 3) := by decide +kernel
theorem dL_isWell_475 : decode cL_isWell 475 = .ok (.if_icmp .ne 73, 3) := by decide +kernel
theorem dL_isWell_478 : decode cL_isWell 478 = .ok (.iload_n 2, 1) := by decide +kernel
theorem dL_isWell_479 : decode cL_isWell 479 = .ok (.aload_n 0, 1) := by decide +kernel
theorem dL_isWell_480 : decode cL_isWell 480 = .ok (.bipush 13, 2) := by decide +kernel
theorem dL_isWell_482 : decode cL_isWell 482 = .ok (.invokevirtual 25, 3) := by decide +kernel
theorem dL_isWell_485 : decode cL_isWell 485 = .ok (.if_icmp .ne 63, 3) := by decide +kernel
theorem dL_isWell_488 : decode cL_isWell 488 = .ok (.iload_n 3, 1) := by decide +kernel
theorem dL_isWell_489 : decode cL_isWell 489 = .ok (.aload_n 0, 1) := by decide +kernel
theorem dL_isWell_490 : decode cL_isWell 490 = .ok (.bipush 14, 2) := by decide +kernel
theorem dL_isWell_492 : decode cL_isWell 492 = .ok (.invokevirtual 25, 3) := by decide +kernel
theorem dL_isWell_495 : decode cL_isWell 495 = .ok (.if_icmp .ne 53, 3) := by decide +kernel
theorem dL_isWell_498 : decode cL_isWell 498 = .ok (.iload 4, 2) := by decide +kernel
theorem dL_isWell_500 : decode cL_isWell 500 = .ok (.aload_n 0, 1) := by decide +kernel
theorem dL_isWell_501 : decode cL_isWell 501 = .ok (.bipush 15, 2) := by decide +kernel
theorem dL_isWell_503 : decode cL_isWell 503 = .ok (.invokevirtual 25, 3) := by decide +kernel
theorem dL_isWell_506 : decode cL_isWell 506 = .ok (.if_icmp .ne 42, 3) := by decide +kernel
theorem dL_isWell_509 : decode cL_isWell 509 = .ok (.iload 5, 2) := by decide +kernel
theorem dL_isWell_511 : decode cL_isWell 511 = .ok (.bipush 48, 2) := by decide +kernel
theorem dL_isWell_513 : decode cL_isWell 513 = .ok (.if_icmp .ne 35, 3) := by decide +kernel
theorem dL_isWell_516 : decode cL_isWell 516 = .ok (.aload_n 0, 1) := by decide +kernel
theorem dL_isWell_517 : decode cL_isWell 517 = .ok (.bipush 11, 2) := by decide +kernel
theorem dL_isWell_519 : decode cL_isWell 519 = .ok (.invokevirtual 25, 3) := by decide +kernel
theorem dL_isWell_522 : decode cL_isWell 522 = .ok (.aload_n 0, 1) := by decide +kernel
theorem dL_isWell_523 : decode cL_isWell 523 = .ok (.bipush 18, 2) := by decide +kernel
theorem dL_isWell_525 : decode cL_isWell 525 = .ok (.invokevirtual 25, 3) := by decide +kernel
theorem dL_isWell_528 : decode cL_isWell 528 = .ok (.if_icmp .ne 20, 3) := by decide +kernel
theorem dL_isWell_531 : decode cL_isWell 531 = .ok (.aload_n 0, 1) := by decide +kernel
theorem dL_isWell_532 : decode cL_isWell 532 = .ok (.iconst 0, 1) := by decide +kernel
theorem dL_isWell_533 : decode cL_isWell 533 = .ok (.invokevirtual 25, 3) := by decide +kernel
theorem dL_isWell_536 : decode cL_isWell 536 = .ok (.aload_n 0, 1) := by decide +kernel
theorem dL_isWell_537 : decode cL_isWell 537 = .ok (.iconst 1, 1) := by decide +kernel
theorem dL_isWell_538 : decode cL_isWell 538 = .ok (.invokevirtual 25, 3) := by decide +kernel
theorem dL_isWell_541 : decode cL_isWell 541 = .ok (.if_icmp .ge 7, 3) := by decide +kernel
theorem dL_isWell_544 : decode cL_isWell 544 = .ok (.iconst 1, 1) := by decide +kernel
theorem dL_isWell_545 : decode cL_isWell 545 = .ok (.goto 4, 3) := by decide +kernel
theorem dL_isWell_548 : decode cL_isWell 548 = .ok (.iconst 0, 1) := by decide +kernel
theorem dL_isWell_549 : decode cL_isWell 549 = .ok (.ireturn, 1) := by decide +kernel
set_option maxRecDepth 20000 in
theorem ggL_law_X4_init : GoodIn wsL_law wsX4_init := goodIn_r _ [5, 6, 7, 8, 9, 10, 11, 12, 13, 14, 15, 16, 17, 18, 19, 20, 21, 22, 23, 24, 25, 26, 27, 28, 29, 30, 31, 32, 33, 34, 35, 36, 37, 38, 39, 40, 41, 42, 43, 44, 45, 46, 47, 48, 49, 50, 51, 52, 53, 54, 55, 56, 57, 58, 59, 60, 61, 62, 63, 64, 65, 66, 67, 68, 69, 369, 370, 371, 372, 373, 362, 363, 364, 365, 366, 367, 368, 374, 375, 376, 377, 378, 379, 380, 381, 382, 383, 384, 385, 386, 387, 388] (by decide +kernel) (by decide +kernel)
set_option maxRecDepth 20000 in
theorem gL_law_X4_init : GoodIn wsL_law (wsX4_init) := ggL_law_X4_init
set_option maxRecDepth 20000 in
theorem ggL_law_L_cell : GoodIn wsL_law wsL_cell := goodIn_r _ [73, 74] (by decide +kernel) (by decide +kernel)
set_option maxRecDepth 20000 in
theorem gL_law_L_cell : GoodIn wsL_law (va_wsS RL 95 yL_cell wsL_cell) := goodIn_app (goodIn_of _ (by decide +kernel)) ggL_law_L_cell
