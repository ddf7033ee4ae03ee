set_option maxRecDepth 20000 in
theorem ggL_law_L_isStep_r1 : GoodIn wsL_law wsL_isStep_r1 := goodIn_r _ [78, 79, 72, 80, 81, 82, 83, 84, 2, 85, 12, 86, 17, 87, 88, 89, 90, 91, 92, 93, 22, 94, 26, 95] (by decide +kernel) (by decide +kernel)
set_option maxRecDepth 20000 in
theorem ggL_law_L_isStep_r2 : GoodIn wsL_law wsL_isStep_r2 := goodIn_r _ [96, 97, 98, 16, 99, 100, 101, 102, 103, 104, 46, 47, 105, 106, 107, 11, 108, 34, 38, 109, 110, 111, 112, 113] (by decide +kernel) (by decide +kernel)
set_option maxRecDepth 20000 in
theorem ggL_law_L_isStep_r3 : GoodIn wsL_law wsL_isStep_r3 := goodIn_r _ [114, 115, 116, 117, 118, 119, 120, 121, 122, 123, 124, 125, 126, 127, 128, 129, 53, 130, 131, 132, 133, 55, 54, 134] (by decide +kernel) (by decide +kernel)
set_option maxRecDepth 20000 in
theorem ggL_law_L_isStep_r4 : GoodIn wsL_law wsL_isStep_r4 := goodIn_r _ [135, 136, 137, 138, 139, 140, 141, 142, 143, 144, 145, 48, 146, 147, 148, 149, 150, 151, 152, 153, 154, 155, 156, 157] (by decide +kernel) (by decide +kernel)
set_option maxRecDepth 20000 in
theorem ggL_law_L_isStep_r5 : GoodIn wsL_law wsL_isStep_r5 := goodIn_r _ [158, 159, 49, 160, 50, 51, 52, 161, 162, 163, 164, 165, 166, 167, 168, 169, 170, 171, 172, 173, 174, 175, 176, 177] (by decide +kernel) (by decide +kernel)
set_option maxRecDepth 20000 in
theorem ggL_law_L_isStep_r6 : GoodIn wsL_law wsL_isStep_r6 := goodIn_r _ [178, 179, 180, 181, 182, 183, 184, 185, 186, 187, 188, 189, 190, 191, 37, 192, 193, 194, 195, 13, 18, 196, 197, 198] (by decide +kernel) (by decide +kernel)
set_option maxRecDepth 20000 in
theorem ggL_law_L_isStep_r7 : GoodIn wsL_law wsL_isStep_r7 := goodIn_r _ [199, 200, 201, 202, 203, 204, 205, 206, 207, 33, 39, 40, 41, 42, 35, 208, 209, 210, 211, 212, 213, 214, 215, 216] (by decide +kernel) (by decide +kernel)
set_option maxRecDepth 20000 in
theorem ggL_law_L_isStep_r8 : GoodIn wsL_law wsL_isStep_r8 := goodIn_r _ [217, 218, 25, 219, 66, 67, 68, 220, 221, 222, 223, 224, 225, 226, 227, 228, 229, 230, 231, 232, 233, 234, 235, 236] (by decide +kernel) (by decide +kernel)
set_option maxRecDepth 20000 in
theorem ggL_law_L_isStep_r9 : GoodIn wsL_law wsL_isStep_r9 := goodIn_r _ [237, 238, 239, 240, 241, 242, 243, 244, 245, 246, 247, 248, 249, 250, 251, 252, 253, 254, 255, 256, 257, 258, 259, 260] (by decide +kernel) (by decide +kernel)
set_option maxRecDepth 20000 in
theorem ggL_law_L_isStep_r10_a : GoodIn wsL_law [Cond.code yX4_mark cX4_mark 3 (some .int), Cond.fieldLink RX4 91 "GlassSpill$Scene" "glass" "[Z", Cond.methodLink RL 62 yX4_keep, Cond.instanceMethod yX4_keep, Cond.selects RX4 yX4_keep yX4_keep, Cond.code yX4_keep cX4_keep 3 (some .int), Cond.methodLink RL 65 yL_isRead, Cond.static yL_isRead] := goodIn_r _ [261, 262, 263, 264, 265, 266, 267, 268] (by decide +kernel) (by decide +kernel)
set_option maxRecDepth 20000 in
theorem ggL_law_L_isStep_r10_b : GoodIn wsL_law [Cond.constantLong RL 29 (46), Cond.methodLink RL 15 yX4_wipe, Cond.instanceMethod yX4_wipe, Cond.selects RX4 yX4_wipe yX4_wipe, Cond.code yX4_wipe cX4_wipe 2 (some .int), Cond.methodLink RL 9 yX4_put, Cond.instanceMethod yX4_put, Cond.selects RX4 yX4_put yX4_put, Cond.code yX4_put cX4_put 4 (some .int), Cond.methodLink RX4 163 yX4_charactersIn, Cond.static yX4_charactersIn, Cond.code yX4_charactersIn cX4_charactersIn 7 (some .int), Cond.constantLong RX4 183 (255), Cond.methodLink RX4 167 yX1_append, Cond.instanceMethod yX1_append] := goodIn_r _ [270, 271, 272, 273, 274, 275, 276, 277, 278, 279, 280, 281, 282, 283, 284] (by decide +kernel) (by decide +kernel)
set_option maxRecDepth 20000 in
theorem ggL_law_L_isStep_r10 : GoodIn wsL_law wsL_isStep_r10 := goodIn_app ggL_law_L_isStep_r10_a (goodIn_cons (List.mem_of_getElem? (i := 269) rfl) rfl ggL_law_L_isStep_r10_b)
set_option maxRecDepth 20000 in
theorem ggL_law_L_isStep_r11 : GoodIn wsL_law wsL_isStep_r11 := goodIn_r _ [285, 21, 286, 60, 59, 287, 288, 289, 290, 291, 292, 293, 294, 295, 296, 297, 298, 299, 300, 301, 302, 303, 304, 305] (by decide +kernel) (by decide +kernel)
set_option maxRecDepth 20000 in
theorem ggL_law_L_isStep_r12 : GoodIn wsL_law wsL_isStep_r12 := goodIn_r _ [306, 307, 308, 309, 310, 311, 312, 313, 314, 315, 316, 317, 318, 319, 320, 27, 9, 10, 321, 322, 323, 28, 29, 30] (by decide +kernel) (by decide +kernel)
set_option maxRecDepth 20000 in
theorem ggL_law_L_isStep_r13 : GoodIn wsL_law wsL_isStep_r13 := goodIn_r _ [31, 7, 8, 32, 36, 324, 325, 326, 327, 328, 329, 330, 331] (by decide +kernel) (by decide +kernel)
set_option maxRecDepth 20000 in
theorem ggL_law_L_isStep_wsX40 : GoodIn wsL_law wsX40 := goodIn_r _ [362, 363, 364, 365, 366, 367, 368] (by decide +kernel) (by decide +kernel)
set_option maxRecDepth 20000 in
theorem ggL_law_L_isStep_wsX20 : GoodIn wsL_law wsX20 := goodIn_r _ [369, 370, 371, 372, 373] (by decide +kernel) (by decide +kernel)
set_option maxRecDepth 20000 in
theorem ggL_law_L_isStep_wsX30 : GoodIn wsL_law wsX30 := goodIn_r _ [374, 375, 376, 377, 378, 379, 380, 381, 382, 383] (by decide +kernel) (by decide +kernel)
set_option maxRecDepth 20000 in
theorem ggL_law_L_isStep_wsX10 : GoodIn wsL_law wsX10 := goodIn_r _ [384, 385] (by decide +kernel) (by decide +kernel)
set_option maxRecDepth 20000 in
theorem ggL_law_L_isStep_wsX00 : GoodIn wsL_law wsX00 := goodIn_r _ [386, 387, 388] (by decide +kernel) (by decide +kernel)
set_option maxRecDepth 20000 in
theorem ggL_law_L_isStep : GoodIn wsL_law wsL_isStep := goodIn_cons (List.mem_of_getElem? (i := 77) rfl) rfl (goodIn_app (goodIn_app (goodIn_app (goodIn_app (goodIn_app (goodIn_app ggL_law_L_isStep_r1 (goodIn_app ggL_law_L_isStep_r2 (goodIn_app ggL_law_L_isStep_r3 (goodIn_app ggL_law_L_isStep_r4 (goodIn_app ggL_law_L_isStep_r5 (goodIn_app ggL_law_L_isStep_r6 (goodIn_app ggL_law_L_isStep_r7 (goodIn_app ggL_law_L_isStep_r8 (goodIn_app ggL_law_L_isStep_r9 (goodIn_app ggL_law_L_isStep_r10 (goodIn_app ggL_law_L_isStep_r11 (goodIn_app ggL_law_L_isStep_r12 (ggL_law_L_isStep_r13))))))))))))) ggL_law_L_isStep_wsX40) ggL_law_L_isStep_wsX20) ggL_law_L_isStep_wsX30) ggL_law_L_isStep_wsX10) ggL_law_L_isStep_wsX00)
set_option maxRecDepth 20000 in
theorem gL_law_L_isStep : GoodIn wsL_law (va_wsS RL 99 yL_isStep wsL_isStep) := goodIn_app (goodIn_of _ (by decide +kernel)) ggL_law_L_isStep
set_option maxRecDepth 20000 in
theorem ggL_law_L_isWell_r1 : GoodIn wsL_law wsL_isWell_r1 := goodIn_r _ [250, 251, 252, 2, 253, 17, 12, 93, 92, 254, 88, 255, 89, 90, 256, 91, 236, 109, 110, 96, 97, 98, 16, 99] (by decide +kernel) (by decide +kernel)
set_option maxRecDepth 20000 in
theorem ggL_law_L_isWell_r2 : GoodIn wsL_law wsL_isWell_r2 := goodIn_r _ [100, 101, 102, 103, 104, 46, 47, 105, 106, 107, 11, 108, 34, 38, 111, 112, 113, 114, 115, 116, 117, 118, 119, 120] (by decide +kernel) (by decide +kernel)
set_option maxRecDepth 20000 in
theorem ggL_law_L_isWell_r3 : GoodIn wsL_law wsL_isWell_r3 := goodIn_r _ [121, 122, 123, 124, 125, 126, 127, 128, 129, 53, 130, 131, 132, 133, 55, 54, 134, 135, 136, 137, 138, 139, 140, 141] (by decide +kernel) (by decide +kernel)
set_option maxRecDepth 20000 in
theorem ggL_law_L_isWell_r4 : GoodIn wsL_law wsL_isWell_r4 := goodIn_r _ [142, 143, 144, 145, 48, 146, 147, 148, 149, 150, 151, 152, 153, 154, 155, 156, 157, 158, 159, 49, 160, 50, 51, 52] (by decide +kernel) (by decide +kernel)
set_option maxRecDepth 20000 in
theorem ggL_law_L_isWell_r5 : GoodIn wsL_law wsL_isWell_r5 := goodIn_r _ [161, 162, 163, 164, 165, 166, 167, 168, 169, 170, 171, 172, 173, 257, 82, 83, 84, 85, 86, 87, 22, 94, 26, 95] (by decide +kernel) (by decide +kernel)
set_option maxRecDepth 20000 in
theorem ggL_law_L_isWell_r6 : GoodIn wsL_law wsL_isWell_r6 := goodIn_r _ [174, 175, 176, 177, 178, 179, 180, 181, 182, 183, 184, 185, 186, 187, 188, 189, 190, 191, 37, 335, 336, 337, 338, 295] (by decide +kernel) (by decide +kernel)
set_option maxRecDepth 20000 in
theorem ggL_law_L_isWell_r7 : GoodIn wsL_law wsL_isWell_r7 := goodIn_r _ [296, 297] (by decide +kernel) (by decide +kernel)
set_option maxRecDepth 20000 in
theorem ggL_law_L_isWell_wsX40 : GoodIn wsL_law wsX40 := goodIn_r _ [362, 363, 364, 365, 366, 367, 368] (by decide +kernel) (by decide +kernel)
set_option maxRecDepth 20000 in
theorem ggL_law_L_isWell_wsX20 : GoodIn wsL_law wsX20 := goodIn_r _ [369, 370, 371, 372, 373] (by decide +kernel) (by decide +kernel)
set_option maxRecDepth 20000 in
theorem ggL_law_L_isWell_wsX30 : GoodIn wsL_law wsX30 := goodIn_r _ [374, 375, 376, 377, 378, 379, 380, 381, 382, 383] (by decide +kernel) (by decide +kernel)
set_option maxRecDepth 20000 in
theorem ggL_law_L_isWell_wsX10 : GoodIn wsL_law wsX10 := goodIn_r _ [384, 385] (by decide +kernel) (by decide +kernel)
set_option maxRecDepth 20000 in
theorem ggL_law_L_isWell_wsX00 : GoodIn wsL_law wsX00 := goodIn_r _ [386, 387, 388] (by decide +kernel) (by decide +kernel)
set_option maxRecDepth 20000 in
theorem ggL_law_L_isWell : GoodIn wsL_law wsL_isWell := goodIn_cons (List.mem_of_getElem? (i := 334) rfl) rfl (goodIn_app (goodIn_app (goodIn_app (goodIn_app (goodIn_app (goodIn_app ggL_law_L_isWell_r1 (goodIn_app ggL_law_L_isWell_r2 (goodIn_app ggL_law_L_isWell_r3 (goodIn_app ggL_law_L_isWell_r4 (goodIn_app ggL_law_L_isWell_r5 (goodIn_app ggL_law_L_isWell_r6 (ggL_law_L_isWell_r7))))))) ggL_law_L_isWell_wsX40) ggL_law_L_isWell_wsX20) ggL_law_L_isWell_wsX30) ggL_law_L_isWell_wsX10) ggL_law_L_isWell_wsX00)
set_option maxRecDepth 20000 in
theorem gL_law_L_isWell : GoodIn wsL_law (va_wsS RL 103 yL_isWell wsL_isWell) := goodIn_app (goodIn_of _ (by decide +kernel)) ggL_law_L_isWell
set_option maxRecDepth 20000 in
theorem ggL_law_L_areAlike_r1 : GoodIn wsL_law wsL_areAlike_r1 := goodIn_r _ [342, 343, 344, 2, 345, 13, 12, 93, 87, 18, 204, 205, 206, 11, 207, 33, 39, 40, 41, 42, 34, 35, 37, 38] (by decide +kernel) (by decide +kernel)
set_option maxRecDepth 20000 in
theorem ggL_law_L_areAlike_r2 : GoodIn wsL_law wsL_areAlike_r2 := goodIn_r _ [346, 347, 348, 16, 349, 47, 146, 100, 101, 102, 103, 104, 46, 105, 106, 107, 108, 109, 110, 111, 112, 113, 114, 115] (by decide +kernel) (by decide +kernel)
set_option maxRecDepth 20000 in
theorem ggL_law_L_areAlike_r3 : GoodIn wsL_law wsL_areAlike_r3 := goodIn_r _ [116, 117, 118, 119, 120, 121, 122, 123, 124, 125, 126, 127, 128, 129, 53, 130, 131, 132, 133, 55, 54, 134, 135, 136] (by decide +kernel) (by decide +kernel)
set_option maxRecDepth 20000 in
theorem ggL_law_L_areAlike_r4 : GoodIn wsL_law wsL_areAlike_r4 := goodIn_r _ [137, 138, 139, 140, 141, 82, 83, 84, 85, 86, 17, 88, 89, 90, 91, 92, 22, 94, 26, 95, 96, 97, 98, 99] (by decide +kernel) (by decide +kernel)
set_option maxRecDepth 20000 in
theorem ggL_law_L_areAlike_r5 : GoodIn wsL_law wsL_areAlike_r5 := goodIn_r _ [142, 143, 144, 145, 48, 147, 148, 149, 150, 151, 152, 153, 154, 155, 156, 157, 158, 159, 49, 160, 50, 51, 52, 161] (by decide +kernel) (by decide +kernel)
set_option maxRecDepth 20000 in
theorem ggL_law_L_areAlike_r6 : GoodIn wsL_law wsL_areAlike_r6 := goodIn_r _ [162, 163, 164, 165, 166, 167, 168, 169, 170, 171, 172, 173, 174, 175, 176, 177, 178, 179, 180, 181, 182, 183, 184, 185] (by decide +kernel) (by decide +kernel)
set_option maxRecDepth 20000 in
theorem ggL_law_L_areAlike_r7 : GoodIn wsL_law wsL_areAlike_r7 := goodIn_r _ [186, 187, 188, 189, 190, 191, 250, 251, 252, 253, 254, 255, 256, 236, 257, 247, 248, 72, 249, 350, 351, 352, 353, 208] (by decide +kernel) (by decide +kernel)
set_option maxRecDepth 20000 in
theorem ggL_law_L_areAlike_r8 : GoodIn wsL_law wsL_areAlike_r8 := goodIn_r _ [209, 210, 211, 202, 203, 354, 355, 356, 357, 78, 79, 80, 81, 192, 193, 194, 195, 196, 197, 198, 199, 200, 201, 358] (by decide +kernel) (by decide +kernel)
set_option maxRecDepth 20000 in
theorem ggL_law_L_areAlike_r9 : GoodIn wsL_law wsL_areAlike_r9 := goodIn_r _ [359, 360, 361] (by decide +kernel) (by decide +kernel)
set_option maxRecDepth 20000 in
theorem ggL_law_L_areAlike_wsX40 : GoodIn wsL_law wsX40 := goodIn_r _ [362, 363, 364, 365, 366, 367, 368] (by decide +kernel) (by decide +kernel)
set_option maxRecDepth 20000 in
theorem ggL_law_L_areAlike_wsX20 : GoodIn wsL_law wsX20 := goodIn_r _ [369, 370, 371, 372, 373] (by decide +kernel) (by decide +kernel)
set_option maxRecDepth 20000 in
theorem ggL_law_L_areAlike_wsX30 : GoodIn wsL_law wsX30 := goodIn_r _ [374, 375, 376, 377, 378, 379, 380, 381, 382, 383] (by decide +kernel) (by decide +kernel)
set_option maxRecDepth 20000 in
theorem ggL_law_L_areAlike_wsX10 : GoodIn wsL_law wsX10 := goodIn_r _ [384, 385] (by decide +kernel) (by decide +kernel)
set_option maxRecDepth 20000 in
theorem ggL_law_L_areAlike_wsX00 : GoodIn wsL_law wsX00 := goodIn_r _ [386, 387, 388] (by decide +kernel) (by decide +kernel)
set_option maxRecDepth 20000 in
theorem ggL_law_L_areAlike : GoodIn wsL_law wsL_areAlike := goodIn_cons (List.mem_of_getElem? (i := 341) rfl) rfl (goodIn_app (goodIn_app (goodIn_app (goodIn_app (goodIn_app (goodIn_app ggL_law_L_areAlike_r1 (goodIn_app ggL_law_L_areAlike_r2 (goodIn_app ggL_law_L_areAlike_r3 (goodIn_app ggL_law_L_areAlike_r4 (goodIn_app ggL_law_L_areAlike_r5 (goodIn_app ggL_law_L_areAlike_r6 (goodIn_app ggL_law_L_areAlike_r7 (goodIn_app ggL_law_L_areAlike_r8 (ggL_law_L_areAlike_r9))))))))) ggL_law_L_areAlike_wsX40) ggL_law_L_areAlike_wsX20) ggL_law_L_areAlike_wsX30) ggL_law_L_areAlike_wsX10) ggL_law_L_areAlike_wsX00)
set_option maxRecDepth 20000 in
theorem gL_law_L_areAlike : GoodIn wsL_law (va_wsS RL 107 yL_areAlike wsL_areAlike) := goodIn_app (goodIn_of _ (by decide +kernel)) ggL_law_L_areAlike
theorem dL_law_0 : decode cL_law 0 = .ok (.new 10, 3) := by decide +kernel
theorem dL_law_3 : decode cL_law 3 = .ok (.dup, 1) := by decide +kernel
theorem dL_law_4 : decode cL_law 4 = .ok (.invokespecial 94, 3) := by decide +kernel
theorem dL_law_7 : decode cL_law 7 = .ok (.astore_n 1, 1) := by decide +kernel
theorem dL_law_8 : decode cL_law 8 = .ok (.new 10, 3) := by decide +kernel
theorem dL_law_11 : decode cL_law 11 = .ok (.dup, 1) := by decide +kernel
theorem dL_law_12 : decode cL_law 12 = .ok (.invokespecial 94, 3) := by decide +kernel
theorem dL_law_15 : decode cL_law 15 = .ok (.astore_n 2, 1) := by decide +kernel
theorem dL_law_16 : decode cL_law 16 = .ok (.iconst 1, 1) := by decide +kernel
theorem dL_law_17 : decode cL_law 17 = .ok (.istore_n 3, 1) := by decide +kernel
theorem dL_law_18 : decode cL_law 18 = .ok (.iconst 0, 1) := by decide +kernel
theorem dL_law_19 : decode cL_law 19 = .ok (.istore 4, 2) := by decide +kernel
theorem dL_law_21 : decode cL_law 21 = .ok (.iload 4, 2) := by decide +kernel
theorem dL_law_23 : decode cL_law 23 = .ok (.bipush 40, 2) := by decide +kernel
theorem dL_law_25 : decode cL_law 25 = .ok (.if_icmp .ge 57, 3) := by decide +kernel
theorem dL_law_28 : decode cL_law 28 = .ok (.iload_n 3, 1) := by decide +kernel
theorem dL_law_29 : decode cL_law 29 = .ok (.ifCond .eq 53, 3) := by decide +kernel
theorem dL_law_32 : decode cL_law 32 = .ok (.aload_n 1, 1) := by decide +kernel
theorem dL_law_33 : decode cL_law 33 = .ok (.aload_n 2, 1) := by decide +kernel
theorem dL_law_34 : decode cL_law 34 = .ok (.aload_n 0, 1) := by decide +kernel
theorem dL_law_35 : decode cL_law 35 = .ok (.iload 4, 2) := by decide +kernel
theorem dL_law_37 : decode cL_law 37 = .ok (.invokestatic 95, 3) := by decide +kernel
theorem dL_law_40 : decode cL_law 40 = .ok (.aload_n 0, 1) := by decide +kernel
theorem dL_law_41 : decode cL_law 41 = .ok (.iload 4, 2) := by decide +kernel
theorem dL_law_43 : decode cL_law 43 = .ok (.iconst 1, 1) := by decide +kernel
theorem dL_law_44 : decode cL_law 44 = .ok (.iadd, 1) := by decide +kernel
theorem dL_law_45 : decode cL_law 45 = .ok (.invokestatic 95, 3) := by decide +kernel
theorem dL_law_48 : decode cL_law 48 = .ok (.iconst 2, 1) := by decide +kernel
theorem dL_law_49 : decode cL_law 49 = .ok (.ishr, 1) := by decide +kernel
theorem dL_law_50 : decode cL_law 50 = .ok (.invokestatic 99, 3) := by decide +kernel
theorem dL_law_53 : decode cL_law 53 = .ok (.ifCond .eq 21, 3) := by decide +kernel
theorem dL_law_56 : decode cL_law 56 = .ok (.iload 4, 2) := by decide +kernel
theorem dL_law_58 : decode cL_law 58 = .ok (.iconst 5, 1) := by decide +kernel
theorem dL_law_59 : decode cL_law 59 = .ok (.irem, 1) := by decide +kernel
theorem dL_law_60 : decode cL_law 60 = .ok (.ifCond .gt 10, 3) := by decide +kernel
theorem dL_law_63 : decode cL_law 63 = .ok (.aload_n 1, 1) := by decide +kernel
theorem dL_law_64 : decode cL_law 64 = .ok (.invokestatic 103, 3) := by decide +kernel
theorem dL_law_67 : decode cL_law 67 = .ok (.ifCond .eq 7, 3) := by decide +kernel
theorem dL_law_70 : decode cL_law 70 = .ok (.iconst 1, 1) := by decide +kernel
theorem dL_law_71 : decode cL_law 71 = .ok (.goto 4, 3) := by decide +kernel
theorem dL_law_74 : decode cL_law 74 = .ok (.iconst 0, 1) := by decide +kernel
theorem dL_law_75 : decode cL_law 75 = .ok (.istore_n 3, 1) := by decide +kernel
theorem dL_law_76 : decode cL_law 76 = .ok (.iinc 4 1, 3) := by decide +kernel
theorem dL_law_79 : decode cL_law 79 = .ok (.goto (-58), 3) := by decide +kernel
theorem dL_law_82 : decode cL_law 82 = .ok (.iload_n 3, 1) := by decide +kernel
theorem dL_law_83 : decode cL_law 83 = .ok (.ifCond .eq 28, 3) := by decide +kernel
theorem dL_law_86 : decode cL_law 86 = .ok (.aload_n 1, 1) := by decide +kernel
theorem dL_law_87 : decode cL_law 87 = .ok (.invokestatic 103, 3) := by decide +kernel
theorem dL_law_90 : decode cL_law 90 = .ok (.ifCond .eq 21, 3) := by decide +kernel
theorem dL_law_93 : decode cL_law 93 = .ok (.aload_n 1, 1) := by decide +kernel
theorem dL_law_94 : decode cL_law 94 = .ok (.aload_n 2, 1) := by decide +kernel
theorem dL_law_95 : decode cL_law 95 = .ok (.aload_n 0, 1) := by decide +kernel
theorem dL_law_96 : decode cL_law 96 = .ok (.bipush 40, 2) := by decide +kernel
theorem dL_law_98 : decode cL_law 98 = .ok (.invokestatic 95, 3) := by decide +kernel
theorem dL_law_101 : decode cL_law 101 = .ok (.invokestatic 107, 3) := by decide +kernel
theorem dL_law_104 : decode cL_law 104 = .ok (.ifCond .eq 7, 3) := by decide +kernel
theorem dL_law_107 : decode cL_law 107 = .ok (.iconst 1, 1) := by decide +kernel
theorem dL_law_108 : decode cL_law 108 = .ok (.goto 4, 3) := by decide +kernel
theorem dL_law_111 : decode cL_law 111 = .ok (.iconst 0, 1) := by decide +kernel
theorem dL_law_112 : decode cL_law 112 = .ok (.ireturn, 1) := by decide +kernel
abbrev vwCl : List vw_C := [(RX0, TX0, 3), (RX1, TX1, 2), (RX2, TX2, 5), (RX3, TX3, 10), (RX4, TX4, 7)]
