set_option maxRecDepth 20000 in
theorem wsL_law_r1_in : ∀ w ∈ wsL_law_r1, w ∈ lw_tbl := lw_memBy _ [17, 18, 10, 19, 20, 21, 22, 23, 24, 25, 26, 11, 142, 143, 64, 65, 13, 144, 145, 108, 109, 14, 146, 122] (by decide +kernel)
set_option maxRecDepth 20000 in
theorem wsL_law_r2_in : ∀ w ∈ wsL_law_r2, w ∈ lw_tbl := lw_memBy _ [123, 15, 147, 148, 27, 28, 29, 30, 62, 36, 39, 42, 63, 45, 48, 33, 35, 34, 12, 67, 68, 69, 70, 72] (by decide +kernel)
set_option maxRecDepth 20000 in
theorem wsL_law_r3_in : ∀ w ∈ wsL_law_r3, w ∈ lw_tbl := lw_memBy _ [74, 76, 78, 80, 82, 84, 85, 86, 111, 112, 113, 114, 115, 124, 125, 126, 127, 128, 131, 132, 133, 130, 164, 165] (by decide +kernel)
set_option maxRecDepth 20000 in
theorem wsL_law_r4_p0 : ∀ w ∈ ([Cond.initialized RL, Cond.code yL_cell cL_cell 2 (some .int), Cond.constant RL 7 (2144593335), Cond.methodLink RL 99 yL_isStep, Cond.static yL_isStep] : List Cond), w ∈ lw_tbl := lw_memBy _ [9, 166, 167, 168, 169] (by decide +kernel)
set_option maxRecDepth 20000 in
theorem wsL_law_r4_p1 : ∀ w ∈ ([Cond.methodLink RL 19 yL_up, Cond.static yL_up, Cond.code yL_up cL_up 2 (some .int), Cond.constant RL 8 (2147483647), Cond.methodLink RL 25 yX4_count, Cond.instanceMethod yX4_count, Cond.selects RX4 yX4_count yX4_count, Cond.code yX4_count cX4_count 2 (some .int), Cond.fieldLink RX4 137 "GlassSpill$Scene" "settings" "[I", Cond.fieldLink RX4 62 "GlassSpill$Scene" "screenColour" "I", Cond.fieldLink RX4 122 "GlassSpill$View" "opaque" "[I", Cond.fieldLink RX4 128 "GlassSpill$View" "spill" "[I", Cond.fieldLink RX4 131 "GlassSpill$View" "taken" "[I", Cond.fieldLink RX4 101 "GlassSpill$View" "composed" "[I", Cond.fieldLink RX4 112 "GlassSpill$Scene" "back" "[I", Cond.fieldLink RX4 105 "GlassSpill$Scene" "front" "[I", Cond.fieldLink RX4 88 "GlassSpill$Pad" "length" "I", Cond.fieldLink RX4 150 "GlassSpill$History" "size" "I"] : List Cond), w ∈ lw_tbl := lw_memBy _ [171, 172, 173, 174, 175, 176, 177, 178, 38, 49, 73, 77, 79, 83, 43, 40, 116, 134] (by decide +kernel)
set_option maxRecDepth 20000 in
theorem wsL_law_r4_in : ∀ w ∈ wsL_law_r4, w ∈ lw_tbl := List.forall_mem_append.mpr ⟨wsL_law_r4_p0, List.forall_mem_cons.mpr ⟨List.mem_of_getElem? (i := 170) rfl, wsL_law_r4_p1⟩⟩
set_option maxRecDepth 20000 in
theorem wsL_law_r5_in : ∀ w ∈ wsL_law_r5, w ∈ lw_tbl := lw_memBy _ [179, 180, 181, 182, 183, 185, 0, 186, 37, 187, 188, 189, 190, 192, 193, 195, 196, 203, 204, 16, 205, 197, 198, 199] (by decide +kernel)
set_option maxRecDepth 20000 in
theorem wsL_law_r6_in : ∀ w ∈ wsL_law_r6, w ∈ lw_tbl := lw_memBy _ [200, 201, 202, 206, 207, 208, 209, 211, 1, 212, 213, 215, 2, 216, 218, 219, 220, 222, 3, 223, 226, 227, 228, 230] (by decide +kernel)
set_option maxRecDepth 20000 in
theorem wsL_law_r7_in : ∀ w ∈ wsL_law_r7, w ∈ lw_tbl := lw_memBy _ [4, 231, 46, 232, 234, 5, 235, 236, 238, 6, 239, 240, 242, 7, 243, 50, 41, 44, 245, 246, 248, 249, 250, 251] (by decide +kernel)
set_option maxRecDepth 20000 in
theorem wsL_law_r8_in : ∀ w ∈ wsL_law_r8, w ∈ lw_tbl := lw_memBy _ [252, 253, 254, 255, 258, 259, 260, 261, 262, 263, 264, 265, 266, 267, 268, 269, 270, 271, 272, 273, 274, 275, 276, 277] (by decide +kernel)
set_option maxRecDepth 20000 in
theorem wsL_law_r9_in : ∀ w ∈ wsL_law_r9, w ∈ lw_tbl := lw_memBy _ [278, 279, 280, 281, 282, 284, 8, 285, 289, 286, 287, 288, 291, 292, 293, 294, 295, 296, 297, 298, 300, 301, 302, 303] (by decide +kernel)
set_option maxRecDepth 20000 in
theorem wsL_law_r10_in : ∀ w ∈ wsL_law_r10, w ∈ lw_tbl := lw_memBy _ [304, 305, 306, 307, 308, 309, 16, 310, 311, 312, 313, 314, 315, 316, 317, 318, 319, 320, 321, 322, 323, 324, 325, 326] (by decide +kernel)
set_option maxRecDepth 20000 in
theorem wsL_law_r11_in : ∀ w ∈ wsL_law_r11, w ∈ lw_tbl := lw_memBy _ [327, 328, 329, 330, 331, 332, 333, 334, 335, 336, 337, 338, 339, 340, 71, 75, 81, 341, 342, 343, 344, 345, 47, 346] (by decide +kernel)
set_option maxRecDepth 20000 in
theorem wsL_law_r12_p0 : ∀ w ∈ ([Cond.instanceMethod yX4_keep, Cond.selects RX4 yX4_keep yX4_keep, Cond.code yX4_keep cX4_keep 3 (some .int), Cond.methodLink RL 65 yL_isRead, Cond.static yL_isRead] : List Cond), w ∈ lw_tbl := lw_memBy _ [347, 348, 349, 350, 351] (by decide +kernel)
set_option maxRecDepth 20000 in
theorem wsL_law_r12_p1 : ∀ w ∈ ([Cond.constantLong RL 29 (46), Cond.methodLink RL 15 yX4_wipe, Cond.instanceMethod yX4_wipe, Cond.selects RX4 yX4_wipe yX4_wipe, Cond.code yX4_wipe cX4_wipe 2 (some .int), Cond.methodLink RL 9 yX4_put, Cond.instanceMethod yX4_put, Cond.selects RX4 yX4_put yX4_put, Cond.code yX4_put cX4_put 4 (some .int), Cond.methodLink RX4 163 yX4_charactersIn, Cond.static yX4_charactersIn, Cond.code yX4_charactersIn cX4_charactersIn 7 (some .int), Cond.constantLong RX4 183 (255), Cond.methodLink RX4 167 yX1_append, Cond.instanceMethod yX1_append, Cond.selects RX1 yX1_append yX1_append, Cond.code yX1_append cX1_append 5 none, Cond.constantLong RX1 19 (255)] : List Cond), w ∈ lw_tbl := lw_memBy _ [357, 353, 354, 355, 356, 358, 359, 360, 361, 362, 363, 364, 365, 366, 367, 368, 369, 370] (by decide +kernel)
set_option maxRecDepth 20000 in
theorem wsL_law_r12_in : ∀ w ∈ wsL_law_r12, w ∈ lw_tbl := List.forall_mem_append.mpr ⟨wsL_law_r12_p0, List.forall_mem_cons.mpr ⟨List.mem_of_getElem? (i := 352) rfl, wsL_law_r12_p1⟩⟩
set_option maxRecDepth 20000 in
theorem wsL_law_r13_in : ∀ w ∈ wsL_law_r13, w ∈ lw_tbl := lw_memBy _ [371, 372, 373, 374, 375, 376, 377, 378, 379, 380, 381, 382, 383, 384, 385, 386, 387, 388, 389, 390, 391, 393, 394, 395] (by decide +kernel)
set_option maxRecDepth 20000 in
theorem wsL_law_r14_p0 : ∀ w ∈ ([Cond.code yX4_undo cX4_undo 1 (some .int), Cond.methodLink RX4 171 yX0_takeBack, Cond.instanceMethod yX0_takeBack, Cond.selects RX0 yX0_takeBack yX0_takeBack, Cond.code yX0_takeBack cX0_takeBack 3 none, Cond.methodLink RL 72 yX4_save, Cond.instanceMethod yX4_save, Cond.selects RX4 yX4_save yX4_save, Cond.code yX4_save cX4_save 3 (some .int), Cond.methodLink RX4 174 yX4_isSlot, Cond.static yX4_isSlot, Cond.code yX4_isSlot cX4_isSlot 1 (some .boolean), Cond.methodLink RL 75 yX4_restore, Cond.instanceMethod yX4_restore, Cond.selects RX4 yX4_restore yX4_restore, Cond.code yX4_restore cX4_restore 3 (some .int), Cond.methodLink RL 78 yX4_paint, Cond.instanceMethod yX4_paint, Cond.selects RX4 yX4_paint yX4_paint, Cond.code yX4_paint cX4_paint 6 (some .int), Cond.methodLink RL 103 yL_isWell, Cond.static yL_isWell] : List Cond), w ∈ lw_tbl := lw_memBy _ [396, 397, 398, 399, 400, 401, 402, 403, 404, 405, 406, 407, 408, 409, 410, 411, 412, 413, 414, 415, 439, 440] (by decide +kernel)
set_option maxRecDepth 20000 in
theorem wsL_law_r14_p1 : ∀ w ∈ ([Cond.methodLink RL 91 yX4_row] : List Cond), w ∈ lw_tbl := lw_memBy _ [442] (by decide +kernel)
set_option maxRecDepth 20000 in
theorem wsL_law_r14_in : ∀ w ∈ wsL_law_r14, w ∈ lw_tbl := List.forall_mem_append.mpr ⟨wsL_law_r14_p0, List.forall_mem_cons.mpr ⟨List.mem_of_getElem? (i := 441) rfl, wsL_law_r14_p1⟩⟩
set_option maxRecDepth 20000 in
theorem wsL_law_r15_p0 : ∀ w ∈ ([Cond.instanceMethod yX4_row, Cond.selects RX4 yX4_row yX4_row, Cond.code yX4_row cX4_row 5 (some .int), Cond.methodLink RL 107 yL_areAlike, Cond.static yL_areAlike] : List Cond), w ∈ lw_tbl := lw_memBy _ [443, 444, 445, 416, 417] (by decide +kernel)
set_option maxRecDepth 20000 in
theorem wsL_law_r15_p1 : ∀ w ∈ ([Cond.methodLink RL 82 yX4_bestScreen, Cond.instanceMethod yX4_bestScreen, Cond.selects RX4 yX4_bestScreen yX4_bestScreen, Cond.code yX4_bestScreen cX4_bestScreen 6 (some .int), Cond.methodLink RX4 156 yX3_clearPixels, Cond.instanceMethod yX3_clearPixels, Cond.selects RX3 yX3_clearPixels yX3_clearPixels, Cond.code yX3_clearPixels cX3_clearPixels 4 (some .int), Cond.methodLink RL 85 yX4_bestShare, Cond.instanceMethod yX4_bestShare, Cond.selects RX4 yX4_bestShare yX4_bestShare, Cond.code yX4_bestShare cX4_bestShare 8 (some .int), Cond.methodLink RX4 160 yX3_spillLeft, Cond.instanceMethod yX3_spillLeft, Cond.selects RX3 yX3_spillLeft yX3_spillLeft, Cond.code yX3_spillLeft cX3_spillLeft 5 (some .int), Cond.methodLink RL 88 yX4_leastNear, Cond.instanceMethod yX4_leastNear] : List Cond), w ∈ lw_tbl := lw_memBy _ [419, 420, 421, 422, 423, 424, 425, 426, 427, 428, 429, 430, 431, 432, 433, 434, 435, 436] (by decide +kernel)
set_option maxRecDepth 20000 in
theorem wsL_law_r15_in : ∀ w ∈ wsL_law_r15, w ∈ lw_tbl := List.forall_mem_append.mpr ⟨wsL_law_r15_p0, List.forall_mem_cons.mpr ⟨List.mem_of_getElem? (i := 418) rfl, wsL_law_r15_p1⟩⟩
set_option maxRecDepth 20000 in
theorem wsL_law_r16_in : ∀ w ∈ wsL_law_r16, w ∈ lw_tbl := lw_memBy _ [437, 438] (by decide +kernel)
set_option maxRecDepth 20000 in
theorem wsX00_in : ∀ w ∈ wsX00, w ∈ lw_tbl := lw_memBy _ [135, 137, 139] (by decide +kernel)
set_option maxRecDepth 20000 in
theorem wsX10_in : ∀ w ∈ wsX10, w ∈ lw_tbl := lw_memBy _ [117, 119] (by decide +kernel)
set_option maxRecDepth 20000 in
theorem wsX20_in : ∀ w ∈ wsX20, w ∈ lw_tbl := lw_memBy _ [51, 53, 55, 57, 59] (by decide +kernel)
set_option maxRecDepth 20000 in
theorem wsX30_in : ∀ w ∈ wsX30, w ∈ lw_tbl := lw_memBy _ [87, 89, 91, 93, 95, 97, 99, 101, 103, 105] (by decide +kernel)
set_option maxRecDepth 20000 in
theorem wsX40_in : ∀ w ∈ wsX40, w ∈ lw_tbl := lw_memBy _ [149, 151, 153, 155, 157, 159, 161] (by decide +kernel)
theorem wsL_law_in : ∀ w ∈ wsL_law, w ∈ lw_tbl := List.forall_mem_append.mpr ⟨List.forall_mem_append.mpr ⟨List.forall_mem_append.mpr ⟨List.forall_mem_append.mpr ⟨List.forall_mem_append.mpr ⟨List.forall_mem_append.mpr ⟨List.forall_mem_append.mpr ⟨wsL_law_r1_in, List.forall_mem_append.mpr ⟨wsL_law_r2_in, List.forall_mem_append.mpr ⟨wsL_law_r3_in, List.forall_mem_append.mpr ⟨wsL_law_r4_in, List.forall_mem_append.mpr ⟨wsL_law_r5_in, List.forall_mem_append.mpr ⟨wsL_law_r6_in, List.forall_mem_append.mpr ⟨wsL_law_r7_in, List.forall_mem_append.mpr ⟨wsL_law_r8_in, List.forall_mem_append.mpr ⟨wsL_law_r9_in, List.forall_mem_append.mpr ⟨wsL_law_r10_in, List.forall_mem_append.mpr ⟨wsL_law_r11_in, List.forall_mem_append.mpr ⟨wsL_law_r12_in, List.forall_mem_append.mpr ⟨wsL_law_r13_in, List.forall_mem_append.mpr ⟨wsL_law_r14_in, List.forall_mem_append.mpr ⟨wsL_law_r15_in, wsL_law_r16_in⟩⟩⟩⟩⟩⟩⟩⟩⟩⟩⟩⟩⟩⟩⟩, wsX40_in⟩, wsX20_in⟩, wsX30_in⟩, wsX10_in⟩, wsX00_in⟩, fun _ h => absurd h List.not_mem_nil⟩
theorem inlX0 : ∀ w ∈ wsX00, w ∈ wsL_law := fun _ h => List.mem_append_left _ (List.mem_append_right _ h)
theorem inX0 : ∀ w ∈ wsX00, w ∈ lw_tbl := fun w h => wsL_law_in w (inlX0 w h)
theorem inlX1 : ∀ w ∈ wsX10, w ∈ wsL_law := fun _ h => List.mem_append_left _ (List.mem_append_left _ (List.mem_append_right _ h))
theorem inX1 : ∀ w ∈ wsX10, w ∈ lw_tbl := fun w h => wsL_law_in w (inlX1 w h)
theorem inlX2 : ∀ w ∈ wsX20, w ∈ wsL_law := fun _ h => List.mem_append_left _ (List.mem_append_left _ (List.mem_append_left _ (List.mem_append_left _ (List.mem_append_right _ h))))
theorem inX2 : ∀ w ∈ wsX20, w ∈ lw_tbl := fun w h => wsL_law_in w (inlX2 w h)
theorem inlX3 : ∀ w ∈ wsX30, w ∈ wsL_law := fun _ h => List.mem_append_left _ (List.mem_append_left _ (List.mem_append_left _ (List.mem_append_right _ h)))
theorem inX3 : ∀ w ∈ wsX30, w ∈ lw_tbl := fun w h => wsL_law_in w (inlX3 w h)
theorem inlX4 : ∀ w ∈ wsX40, w ∈ wsL_law := fun _ h => List.mem_append_left _ (List.mem_append_left _ (List.mem_append_left _ (List.mem_append_left _ (List.mem_append_left _ (List.mem_append_right _ h)))))
theorem inX4 : ∀ w ∈ wsX40, w ∈ lw_tbl := fun w h => wsL_law_in w (inlX4 w h)
theorem inX5 : ∀ w ∈ wsX50, w ∈ lw_tbl := by decide +kernel
theorem inJ9 : ∀ w ∈ wsJ90, w ∈ lw_tbl := by decide +kernel
theorem inJ10 : ∀ w ∈ wsJ100, w ∈ lw_tbl := by decide +kernel
set_option maxRecDepth 20000 in
theorem ggX0_init_X2_init : GoodIn wsX0_init wsX2_init := goodIn_r _ [12, 13, 2, 3, 14, 15, 16, 17, 18, 19, 20, 21, 22, 23, 24, 28, 29, 30, 31, 32] (by decide +kernel) (by decide +kernel)
set_option maxRecDepth 20000 in
theorem gX0_init_X2_init : GoodIn wsX0_init (wsX2_init) := ggX0_init_X2_init
theorem dX0_init_0 : decode cX0_init 0 = .ok (.aload_n 0, 1) := by decide +kernel
theorem dX0_init_1 : decode cX0_init 1 = .ok (.invokespecial 3, 3) := by decide +kernel
theorem dX0_init_4 : decode cX0_init 4 = .ok (.aload_n 0, 1) := by decide +kernel
theorem dX0_init_5 : decode cX0_init 5 = .ok (.bipush 6, 2) := by decide +kernel
theorem dX0_init_7 : decode cX0_init 7 = .ok (.anewarray 9, 3) := by decide +kernel
theorem dX0_init_10 : decode cX0_init 10 = .ok (.putfield 11, 3) := by decide +kernel
theorem dX0_init_13 : decode cX0_init 13 = .ok (.aload_n 0, 1) := by decide +kernel
theorem dX0_init_14 : decode cX0_init 14 = .ok (.iconst 0, 1) := by decide +kernel
theorem dX0_init_15 : decode cX0_init 15 = .ok (.putfield 17, 3) := by decide +kernel
theorem dX0_init_18 : decode cX0_init 18 = .ok (.aload_n 0, 1) := by decide +kernel
theorem dX0_init_19 : decode cX0_init 19 = .ok (.iconst 0, 1) := by decide +kernel
theorem dX0_init_20 : decode cX0_init 20 = .ok (.putfield 21, 3) := by decide +kernel
theorem dX0_init_23 : decode cX0_init 23 = .ok (.iconst 0, 1) := by decide +kernel
theorem dX0_init_24 : decode cX0_init 24 = .ok (.istore_n 1, 1) := by decide +kernel
theorem dX0_init_25 : decode cX0_init 25 = .ok (.iload_n 1, 1) := by decide +kernel
theorem dX0_init_26 : decode cX0_init 26 = .ok (.bipush 6, 2) := by decide +kernel
theorem dX0_init_28 : decode cX0_init 28 = .ok (.if_icmp .ge 22, 3) := by decide +kernel
theorem dX0_init_31 : decode cX0_init 31 = .ok (.aload_n 0, 1) := by decide +kernel
theorem dX0_init_32 : decode cX0_init 32 = .ok (.getfield 11, 3) := by decide +kernel
theorem dX0_init_35 : decode cX0_init 35 = .ok (.iload_n 1, 1) := by decide +kernel
theorem dX0_init_36 : decode cX0_init 36 = .ok (.new 9, 3) := by decide +kernel
theorem dX0_init_39 : decode cX0_init 39 = .ok (.dup, 1) := by decide +kernel
theorem dX0_init_40 : decode cX0_init 40 = .ok (.invokespecial 24, 3) := by decide +kernel
theorem dX0_init_43 : decode cX0_init 43 = .ok (.aastore, 1) := by decide +kernel
theorem dX0_init_44 : decode cX0_init 44 = .ok (.iinc 1 1, 3) := by decide +kernel
theorem dX0_init_47 : decode cX0_init 47 = .ok (.goto (-22), 3) := by decide +kernel
theorem dX0_init_50 : decode cX0_init 50 = .ok (.return_, 1) := by decide +kernel
set_option maxRecDepth 20000 in
theorem ggX0_remember_J9_floorMod_7cf53 : GoodIn wsX0_remember wsJ9_floorMod_7cf53 := goodIn_r _ [7] (by decide +kernel) (by decide +kernel)
set_option maxRecDepth 20000 in
theorem gX0_remember_J9_floorMod_7cf53 : GoodIn wsX0_remember (va_wsS RX0 25 yJ9_floorMod_7cf53 wsJ9_floorMod_7cf53) := goodIn_app (goodIn_of _ (by decide +kernel)) ggX0_remember_J9_floorMod_7cf53
set_option maxRecDepth 20000 in
theorem ggX0_remember_X2_copyFrom : GoodIn wsX0_remember wsX2_copyFrom := goodIn_r _ [12, 13, 14, 15, 16, 17, 18, 19, 20, 21, 25, 26, 27, 28, 29] (by decide +kernel) (by decide +kernel)
set_option maxRecDepth 20000 in
theorem gX0_remember_X2_copyFrom : GoodIn wsX0_remember (wsV RX0 31 RX2 yX2_copyFrom wsX2_copyFrom) := goodIn_app (goodIn_of _ (by decide +kernel)) ggX0_remember_X2_copyFrom
theorem dX0_remember_0 : decode cX0_remember 0 = .ok (.aload_n 0, 1) := by decide +kernel
theorem dX0_remember_1 : decode cX0_remember 1 = .ok (.getfield 11, 3) := by decide +kernel
theorem dX0_remember_4 : decode cX0_remember 4 = .ok (.aload_n 0, 1) := by decide +kernel
theorem dX0_remember_5 : decode cX0_remember 5 = .ok (.getfield 17, 3) := by decide +kernel
theorem dX0_remember_8 : decode cX0_remember 8 = .ok (.aload_n 0, 1) := by decide +kernel
theorem dX0_remember_9 : decode cX0_remember 9 = .ok (.getfield 21, 3) := by decide +kernel
theorem dX0_remember_12 : decode cX0_remember 12 = .ok (.iadd, 1) := by decide +kernel
theorem dX0_remember_13 : decode cX0_remember 13 = .ok (.bipush 6, 2) := by decide +kernel
theorem dX0_remember_15 : decode cX0_remember 15 = .ok (.invokestatic 25, 3) := by decide +kernel
theorem dX0_remember_18 : decode cX0_remember 18 = .ok (.aaload, 1) := by decide +kernel
theorem dX0_remember_19 : decode cX0_remember 19 = .ok (.astore_n 2, 1) := by decide +kernel
theorem dX0_remember_20 : decode cX0_remember 20 = .ok (.aload_n 2, 1) := by decide +kernel
theorem dX0_remember_21 : decode cX0_remember 21 = .ok (.ifnonnull 4, 3) := by decide +kernel
theorem dX0_remember_24 : decode cX0_remember 24 = .ok (.return_, 1) := by decide +kernel
theorem dX0_remember_25 : decode cX0_remember 25 = .ok (.aload_n 2, 1) := by decide +kernel
theorem dX0_remember_26 : decode cX0_remember 26 = .ok (.aload_n 1, 1) := by decide +kernel
theorem dX0_remember_27 : decode cX0_remember 27 = .ok (.invokevirtual 31, 3) := by decide +kernel
theorem dX0_remember_30 : decode cX0_remember 30 = .ok (.aload_n 0, 1) := by decide +kernel
theorem dX0_remember_31 : decode cX0_remember 31 = .ok (.getfield 21, 3) := by decide +kernel
theorem dX0_remember_34 : decode cX0_remember 34 = .ok (.bipush 6, 2) := by decide +kernel
theorem dX0_remember_36 : decode cX0_remember 36 = .ok (.if_icmp .ge 16, 3) := by decide +kernel
theorem dX0_remember_39 : decode cX0_remember 39 = .ok (.aload_n 0, 1) := by decide +kernel
theorem dX0_remember_40 : decode cX0_remember 40 = .ok (.dup, 1) := by decide +kernel
theorem dX0_remember_41 : decode cX0_remember 41 = .ok (.getfield 21, 3) := by decide +kernel
theorem dX0_remember_44 : decode cX0_remember 44 = .ok (.iconst 1, 1) := by decide +kernel
theorem dX0_remember_45 : decode cX0_remember 45 = .ok (.iadd, 1) := by decide +kernel
theorem dX0_remember_46 : decode cX0_remember 46 = .ok (.putfield 21, 3) := by decide +kernel
theorem dX0_remember_49 : decode cX0_remember 49 = .ok (.goto 18, 3) := by decide +kernel
theorem dX0_remember_52 : decode cX0_remember 52 = .ok (.aload_n 0, 1) := by decide +kernel
theorem dX0_remember_53 : decode cX0_remember 53 = .ok (.aload_n 0, 1) := by decide +kernel
theorem dX0_remember_54 : decode cX0_remember 54 = .ok (.getfield 17, 3) := by decide +kernel
theorem dX0_remember_57 : decode cX0_remember 57 = .ok (.iconst 1, 1) := by decide +kernel
theorem dX0_remember_58 : decode cX0_remember 58 = .ok (.iadd, 1) := by decide +kernel
theorem dX0_remember_59 : decode cX0_remember 59 = .ok (.bipush 6, 2) := by decide +kernel
theorem dX0_remember_61 : decode cX0_remember 61 = .ok (.invokestatic 25, 3) := by decide +kernel
theorem dX0_remember_64 : decode cX0_remember 64 = .ok (.putfield 17, 3) := by decide +kernel
theorem dX0_remember_67 : decode cX0_remember 67 = .ok (.return_, 1) := by decide +kernel
set_option maxRecDepth 20000 in
theorem ggX0_takeBack_J9_floorMod_7cf53 : GoodIn wsX0_takeBack wsJ9_floorMod_7cf53 := goodIn_r _ [7] (by decide +kernel) (by decide +kernel)
set_option maxRecDepth 20000 in
theorem gX0_takeBack_J9_floorMod_7cf53 : GoodIn wsX0_takeBack (va_wsS RX0 25 yJ9_floorMod_7cf53 wsJ9_floorMod_7cf53) := goodIn_app (goodIn_of _ (by decide +kernel)) ggX0_takeBack_J9_floorMod_7cf53
set_option maxRecDepth 20000 in
theorem ggX0_takeBack_X2_copyFrom : GoodIn wsX0_takeBack wsX2_copyFrom := goodIn_r _ [12, 13, 14, 15, 16, 17, 18, 19, 20, 21, 25, 26, 27, 28, 29] (by decide +kernel) (by decide +kernel)
set_option maxRecDepth 20000 in
theorem gX0_takeBack_X2_copyFrom : GoodIn wsX0_takeBack (wsV RX0 31 RX2 yX2_copyFrom wsX2_copyFrom) := goodIn_app (goodIn_of _ (by decide +kernel)) ggX0_takeBack_X2_copyFrom
theorem dX0_takeBack_0 : decode cX0_takeBack 0 = .ok (.aload_n 0, 1) := by decide +kernel
theorem dX0_takeBack_1 : decode cX0_takeBack 1 = .ok (.getfield 21, 3) := by decide +kernel
theorem dX0_takeBack_4 : decode cX0_takeBack 4 = .ok (.ifCond .ne 4, 3) := by decide +kernel
theorem dX0_takeBack_7 : decode cX0_takeBack 7 = .ok (.return_, 1) := by decide +kernel
theorem dX0_takeBack_8 : decode cX0_takeBack 8 = .ok (.aload_n 0, 1) := by decide +kernel
theorem dX0_takeBack_9 : decode cX0_takeBack 9 = .ok (.getfield 11, 3) := by decide +kernel
theorem dX0_takeBack_12 : decode cX0_takeBack 12 = .ok (.aload_n 0, 1) := by decide +kernel
theorem dX0_takeBack_13 : decode cX0_takeBack 13 = .ok (.getfield 17, 3) := by decide +kernel
theorem dX0_takeBack_16 : decode cX0_takeBack 16 = .ok (.aload_n 0, 1) := by decide +kernel
theorem dX0_takeBack_17 : decode cX0_takeBack 17 = .ok (.getfield 21, 3) := by decide +kernel
theorem dX0_takeBack_20 : decode cX0_takeBack 20 = .ok (.iadd, 1) := by decide +kernel
theorem dX0_takeBack_21 : decode cX0_takeBack 21 = .ok (.iconst 1, 1) := by decide +kernel
theorem dX0_takeBack_22 : decode cX0_takeBack 22 = .ok (.isub, 1) := by decide +kernel
theorem dX0_takeBack_23 : decode cX0_takeBack 23 = .ok (.bipush 6, 2) := by decide +kernel
theorem dX0_takeBack_25 : decode cX0_takeBack 25 = .ok (.invokestatic 25, 3) := by decide +kernel
theorem dX0_takeBack_28 : decode cX0_takeBack 28 = .ok (.aaload, 1) := by decide +kernel
theorem dX0_takeBack_29 : decode cX0_takeBack 29 = .ok (.astore_n 2, 1) := by decide +kernel
theorem dX0_takeBack_30 : decode cX0_takeBack 30 = .ok (.aload_n 2, 1) := by decide +kernel
theorem dX0_takeBack_31 : decode cX0_takeBack 31 = .ok (.ifnonnull 4, 3) := by decide +kernel
theorem dX0_takeBack_34 : decode cX0_takeBack 34 = .ok (.return_, 1) := by decide +kernel
theorem dX0_takeBack_35 : decode cX0_takeBack 35 = .ok (.aload_n 1, 1) := by decide +kernel
theorem dX0_takeBack_36 : decode cX0_takeBack 36 = .ok (.aload_n 2, 1) := by decide +kernel
theorem dX0_takeBack_37 : decode cX0_takeBack 37 = .ok (.invokevirtual 31, 3) := by decide +kernel
theorem dX0_takeBack_40 : decode cX0_takeBack 40 = .ok (.aload_n 0, 1) := by decide +kernel
theorem dX0_takeBack_41 : decode cX0_takeBack 41 = .ok (.dup, 1) := by decide +kernel
theorem dX0_takeBack_42 : decode cX0_takeBack 42 = .ok (.getfield 21, 3) := by decide +kernel
theorem dX0_takeBack_45 : decode cX0_takeBack 45 = .ok (.iconst 1, 1) := by decide +kernel
theorem dX0_takeBack_46 : decode cX0_takeBack 46 = .ok (.isub, 1) := by decide +kernel
theorem dX0_takeBack_47 : decode cX0_takeBack 47 = .ok (.putfield 21, 3) := by decide +kernel
theorem dX0_takeBack_50 : decode cX0_takeBack 50 = .ok (.return_, 1) := by decide +kernel
theorem dX1_init_0 : decode cX1_init 0 = .ok (.aload_n 0, 1) := by decide +kernel
theorem dX1_init_1 : decode cX1_init 1 = .ok (.invokespecial 3, 3) := by decide +kernel
theorem dX1_init_4 : decode cX1_init 4 = .ok (.aload_n 0, 1) := by decide +kernel
theorem dX1_init_5 : decode cX1_init 5 = .ok (.bipush 48, 2) := by decide +kernel
theorem dX1_init_7 : decode cX1_init 7 = .ok (.newarray .int, 2) := by decide +kernel
theorem dX1_init_9 : decode cX1_init 9 = .ok (.putfield 9, 3) := by decide +kernel
theorem dX1_init_12 : decode cX1_init 12 = .ok (.aload_n 0, 1) := by decide +kernel
theorem dX1_init_13 : decode cX1_init 13 = .ok (.iconst 0, 1) := by decide +kernel
theorem dX1_init_14 : decode cX1_init 14 = .ok (.putfield 15, 3) := by decide +kernel
theorem dX1_init_17 : decode cX1_init 17 = .ok (.return_, 1) := by decide +kernel
theorem dX1_append_0 : decode cX1_append 0 = .ok (.iload_n 3, 1) := by decide +kernel
theorem dX1_append_1 : decode cX1_append 1 = .ok (.iconst 1, 1) := by decide +kernel
theorem dX1_append_2 : decode cX1_append 2 = .ok (.isub, 1) := by decide +kernel
theorem dX1_append_3 : decode cX1_append 3 = .ok (.istore 4, 2) := by decide +kernel
theorem dX1_append_5 : decode cX1_append 5 = .ok (.iload 4, 2) := by decide +kernel
theorem dX1_append_7 : decode cX1_append 7 = .ok (.ifCond .lt 49, 3) := by decide +kernel
theorem dX1_append_10 : decode cX1_append 10 = .ok (.aload_n 0, 1) := by decide +kernel
theorem dX1_append_11 : decode cX1_append 11 = .ok (.getfield 15, 3) := by decide +kernel
theorem dX1_append_14 : decode cX1_append 14 = .ok (.bipush 48, 2) := by decide +kernel
theorem dX1_append_16 : decode cX1_append 16 = .ok (.if_icmp .ge 40, 3) := by decide +kernel
theorem dX1_append_19 : decode cX1_append 19 = .ok (.aload_n 0, 1) := by decide +kernel
theorem dX1_append_20 : decode cX1_append 20 = .ok (.getfield 9, 3) := by decide +kernel
theorem dX1_append_23 : decode cX1_append 23 = .ok (.aload_n 0, 1) := by decide +kernel
theorem dX1_append_24 : decode cX1_append 24 = .ok (.getfield 15, 3) := by decide +kernel
theorem dX1_append_27 : decode cX1_append 27 = .ok (.lload_n 1, 1) := by decide +kernel
theorem dX1_append_28 : decode cX1_append 28 = .ok (.bipush 8, 2) := by decide +kernel
theorem dX1_append_30 : decode cX1_append 30 = .ok (.iload 4, 2) := by decide +kernel
theorem dX1_append_32 : decode cX1_append 32 = .ok (.imul, 1) := by decide +kernel
theorem dX1_append_33 : decode cX1_append 33 = .ok (.lushr, 1) := by decide +kernel
theorem dX1_append_34 : decode cX1_append 34 = .ok (.ldc2_w 19, 3) := by decide +kernel
theorem dX1_append_37 : decode cX1_append 37 = .ok (.land, 1) := by decide +kernel
theorem dX1_append_38 : decode cX1_append 38 = .ok (.l2i, 1) := by decide +kernel
theorem dX1_append_39 : decode cX1_append 39 = .ok (.iastore, 1) := by decide +kernel
theorem dX1_append_40 : decode cX1_append 40 = .ok (.aload_n 0, 1) := by decide +kernel
theorem dX1_append_41 : decode cX1_append 41 = .ok (.dup, 1) := by decide +kernel
theorem dX1_append_42 : decode cX1_append 42 = .ok (.getfield 15, 3) := by decide +kernel
theorem dX1_append_45 : decode cX1_append 45 = .ok (.iconst 1, 1) := by decide +kernel
theorem dX1_append_46 : decode cX1_append 46 = .ok (.iadd, 1) := by decide +kernel
theorem dX1_append_47 : decode cX1_append 47 = .ok (.putfield 15, 3) := by decide +kernel
theorem dX1_append_50 : decode cX1_append 50 = .ok (.iinc 4 (-1), 3) := by decide +kernel
theorem dX1_append_53 : decode cX1_append 53 = .ok (.goto (-48), 3) := by decide +kernel
theorem dX1_append_56 : decode cX1_append 56 = .ok (.return_, 1) := by decide +kernel
set_option maxRecDepth 20000 in
theorem ggX1_firstFault_X1_partOf : GoodIn wsX1_firstFault wsX1_partOf := goodIn_r _ [6] (by decide +kernel) (by decide +kernel)
set_option maxRecDepth 20000 in
theorem gX1_firstFault_X1_partOf : GoodIn wsX1_firstFault (va_wsS RX1 21 yX1_partOf wsX1_partOf) := goodIn_app (goodIn_of _ (by decide +kernel)) ggX1_firstFault_X1_partOf
theorem dX1_firstFault_0 : decode cX1_firstFault 0 = .ok (.iconst 0, 1) := by decide +kernel
theorem dX1_firstFault_1 : decode cX1_firstFault 1 = .ok (.istore_n 1, 1) := by decide +kernel
theorem dX1_firstFault_2 : decode cX1_firstFault 2 = .ok (.iconst 0, 1) := by decide +kernel
theorem dX1_firstFault_3 : decode cX1_firstFault 3 = .ok (.istore_n 2, 1) := by decide +kernel
theorem dX1_firstFault_4 : decode cX1_firstFault 4 = .ok (.iconst 0, 1) := by decide +kernel
theorem dX1_firstFault_5 : decode cX1_firstFault 5 = .ok (.istore_n 3, 1) := by decide +kernel
theorem dX1_firstFault_6 : decode cX1_firstFault 6 = .ok (.iload_n 3, 1) := by decide +kernel
theorem dX1_firstFault_7 : decode cX1_firstFault 7 = .ok (.aload_n 0, 1) := by decide +kernel
theorem dX1_firstFault_8 : decode cX1_firstFault 8 = .ok (.getfield 15, 3) := by decide +kernel
theorem dX1_firstFault_11 : decode cX1_firstFault 11 = .ok (.if_icmp .ge 79, 3) := by decide +kernel
theorem dX1_firstFault_14 : decode cX1_firstFault 14 = .ok (.iload_n 3, 1) := by decide +kernel
theorem dX1_firstFault_15 : decode cX1_firstFault 15 = .ok (.bipush 48, 2) := by decide +kernel
theorem dX1_firstFault_17 : decode cX1_firstFault 17 = .ok (.if_icmp .ge 73, 3) := by decide +kernel
theorem dX1_firstFault_20 : decode cX1_firstFault 20 = .ok (.iload_n 1, 1) := by decide +kernel
theorem dX1_firstFault_21 : decode cX1_firstFault 21 = .ok (.bipush 8, 2) := by decide +kernel
theorem dX1_firstFault_23 : decode cX1_firstFault 23 = .ok (.if_icmp .ne 5, 3) := by decide +kernel
theorem dX1_firstFault_26 : decode cX1_firstFault 26 = .ok (.iload_n 3, 1) := by decide +kernel
theorem dX1_firstFault_27 : decode cX1_firstFault 27 = .ok (.ireturn, 1) := by decide +kernel
theorem dX1_firstFault_28 : decode cX1_firstFault 28 = .ok (.aload_n 0, 1) := by decide +kernel
theorem dX1_firstFault_29 : decode cX1_firstFault 29 = .ok (.getfield 9, 3) := by decide +kernel
theorem dX1_firstFault_32 : decode cX1_firstFault 32 = .ok (.iload_n 3, 1) := by decide +kernel
theorem dX1_firstFault_33 : decode cX1_firstFault 33 = .ok (.iaload, 1) := by decide +kernel
theorem dX1_firstFault_34 : decode cX1_firstFault 34 = .ok (.invokestatic 21, 3) := by decide +kernel
theorem dX1_firstFault_37 : decode cX1_firstFault 37 = .ok (.ifCond .lt 9, 3) := by decide +kernel
theorem dX1_firstFault_40 : decode cX1_firstFault 40 = .ok (.iinc 2 1, 3) := by decide +kernel
theorem dX1_firstFault_43 : decode cX1_firstFault 43 = .ok (.goto 20, 3) := by decide +kernel
theorem dX1_firstFault_46 : decode cX1_firstFault 46 = .ok (.aload_n 0, 1) := by decide +kernel
theorem dX1_firstFault_47 : decode cX1_firstFault 47 = .ok (.getfield 9, 3) := by decide +kernel
theorem dX1_firstFault_50 : decode cX1_firstFault 50 = .ok (.iload_n 3, 1) := by decide +kernel
theorem dX1_firstFault_51 : decode cX1_firstFault 51 = .ok (.iaload, 1) := by decide +kernel
theorem dX1_firstFault_52 : decode cX1_firstFault 52 = .ok (.bipush 46, 2) := by decide +kernel
theorem dX1_firstFault_54 : decode cX1_firstFault 54 = .ok (.if_icmp .ne 7, 3) := by decide +kernel
theorem dX1_firstFault_57 : decode cX1_firstFault 57 = .ok (.iload_n 2, 1) := by decide +kernel
theorem dX1_firstFault_58 : decode cX1_firstFault 58 = .ok (.ifCond .le 5, 3) := by decide +kernel
theorem dX1_firstFault_61 : decode cX1_firstFault 61 = .ok (.iload_n 3, 1) := by decide +kernel
theorem dX1_firstFault_62 : decode cX1_firstFault 62 = .ok (.ireturn, 1) := by decide +kernel
theorem dX1_firstFault_63 : decode cX1_firstFault 63 = .ok (.iload_n 2, 1) := by decide +kernel
theorem dX1_firstFault_64 : decode cX1_firstFault 64 = .ok (.iconst 3, 1) := by decide +kernel
theorem dX1_firstFault_65 : decode cX1_firstFault 65 = .ok (.if_icmp .eq 14, 3) := by decide +kernel
theorem dX1_firstFault_68 : decode cX1_firstFault 68 = .ok (.aload_n 0, 1) := by decide +kernel
theorem dX1_firstFault_69 : decode cX1_firstFault 69 = .ok (.getfield 9, 3) := by decide +kernel
theorem dX1_firstFault_72 : decode cX1_firstFault 72 = .ok (.iload_n 3, 1) := by decide +kernel
theorem dX1_firstFault_73 : decode cX1_firstFault 73 = .ok (.iaload, 1) := by decide +kernel
theorem dX1_firstFault_74 : decode cX1_firstFault 74 = .ok (.bipush 46, 2) := by decide +kernel
theorem dX1_firstFault_76 : decode cX1_firstFault 76 = .ok (.if_icmp .ne 8, 3) := by decide +kernel
theorem dX1_firstFault_79 : decode cX1_firstFault 79 = .ok (.iconst 0, 1) := by decide +kernel
theorem dX1_firstFault_80 : decode cX1_firstFault 80 = .ok (.istore_n 2, 1) := by decide +kernel
theorem dX1_firstFault_81 : decode cX1_firstFault 81 = .ok (.iinc 1 1, 3) := by decide +kernel
theorem dX1_firstFault_84 : decode cX1_firstFault 84 = .ok (.iinc 3 1, 3) := by decide +kernel
theorem dX1_firstFault_87 : decode cX1_firstFault 87 = .ok (.goto (-81), 3) := by decide +kernel
theorem dX1_firstFault_90 : decode cX1_firstFault 90 = .ok (.iload_n 1, 1) := by decide +kernel
theorem dX1_firstFault_91 : decode cX1_firstFault 91 = .ok (.ifCond .eq 7, 3) := by decide +kernel
theorem dX1_firstFault_94 : decode cX1_firstFault 94 = .ok (.iload_n 2, 1) := by decide +kernel
theorem dX1_firstFault_95 : decode cX1_firstFault 95 = .ok (.ifCond .le 10, 3) := by decide +kernel
theorem dX1_firstFault_98 : decode cX1_firstFault 98 = .ok (.aload_n 0, 1) := by decide +kernel
theorem dX1_firstFault_99 : decode cX1_firstFault 99 = .ok (.getfield 15, 3) := by decide +kernel
theorem dX1_firstFault_102 : decode cX1_firstFault 102 = .ok (.goto 5, 3) := by decide +kernel
theorem dX1_firstFault_105 : decode cX1_firstFault 105 = .ok (.bipush (-6), 2) := by decide +kernel
theorem dX1_firstFault_107 : decode cX1_firstFault 107 = .ok (.ireturn, 1) := by decide +kernel
set_option maxRecDepth 20000 in
theorem ggX1_paintOn_X1_partOf : GoodIn wsX1_paintOn wsX1_partOf := goodIn_r _ [6] (by decide +kernel) (by decide +kernel)
set_option maxRecDepth 20000 in
theorem gX1_paintOn_X1_partOf : GoodIn wsX1_paintOn (va_wsS RX1 21 yX1_partOf wsX1_partOf) := goodIn_app (goodIn_of _ (by decide +kernel)) ggX1_paintOn_X1_partOf
set_option maxRecDepth 20000 in
theorem ggX1_paintOn_X4_isPixel : GoodIn wsX1_paintOn wsX4_isPixel := goodIn_r _ [9] (by decide +kernel) (by decide +kernel)
set_option maxRecDepth 20000 in
theorem gX1_paintOn_X4_isPixel_n25 : GoodIn wsX1_paintOn (wsX4_isPixel) := ggX1_paintOn_X4_isPixel
theorem dX1_paintOn_0 : decode cX1_paintOn 0 = .ok (.iload_n 2, 1) := by decide +kernel
theorem dX1_paintOn_1 : decode cX1_paintOn 1 = .ok (.istore_n 3, 1) := by decide +kernel
theorem dX1_paintOn_2 : decode cX1_paintOn 2 = .ok (.iconst 0, 1) := by decide +kernel
theorem dX1_paintOn_3 : decode cX1_paintOn 3 = .ok (.istore 4, 2) := by decide +kernel
theorem dX1_paintOn_5 : decode cX1_paintOn 5 = .ok (.iconst 0, 1) := by decide +kernel
theorem dX1_paintOn_6 : decode cX1_paintOn 6 = .ok (.istore 5, 2) := by decide +kernel
theorem dX1_paintOn_8 : decode cX1_paintOn 8 = .ok (.iconst 0, 1) := by decide +kernel
theorem dX1_paintOn_9 : decode cX1_paintOn 9 = .ok (.istore 6, 2) := by decide +kernel
theorem dX1_paintOn_11 : decode cX1_paintOn 11 = .ok (.iconst 0, 1) := by decide +kernel
theorem dX1_paintOn_12 : decode cX1_paintOn 12 = .ok (.istore 7, 2) := by decide +kernel
theorem dX1_paintOn_14 : decode cX1_paintOn 14 = .ok (.iload 7, 2) := by decide +kernel
theorem dX1_paintOn_16 : decode cX1_paintOn 16 = .ok (.aload_n 0, 1) := by decide +kernel
theorem dX1_paintOn_17 : decode cX1_paintOn 17 = .ok (.getfield 15, 3) := by decide +kernel
theorem dX1_paintOn_20 : decode cX1_paintOn 20 = .ok (.if_icmp .ge 85, 3) := by decide +kernel
theorem dX1_paintOn_23 : decode cX1_paintOn 23 = .ok (.iload 7, 2) := by decide +kernel
theorem dX1_paintOn_25 : decode cX1_paintOn 25 = .ok (.bipush 48, 2) := by decide +kernel
theorem dX1_paintOn_27 : decode cX1_paintOn 27 = .ok (.if_icmp .ge 78, 3) := by decide +kernel
theorem dX1_paintOn_30 : decode cX1_paintOn 30 = .ok (.aload_n 0, 1) := by decide +kernel
theorem dX1_paintOn_31 : decode cX1_paintOn 31 = .ok (.getfield 9, 3) := by decide +kernel
theorem dX1_paintOn_34 : decode cX1_paintOn 34 = .ok (.iload 7, 2) := by decide +kernel
theorem dX1_paintOn_36 : decode cX1_paintOn 36 = .ok (.iaload, 1) := by decide +kernel
theorem dX1_paintOn_37 : decode cX1_paintOn 37 = .ok (.bipush 46, 2) := by decide +kernel
theorem dX1_paintOn_39 : decode cX1_paintOn 39 = .ok (.if_icmp .ne 9, 3) := by decide +kernel
theorem dX1_paintOn_42 : decode cX1_paintOn 42 = .ok (.iinc 3 1, 3) := by decide +kernel
theorem dX1_paintOn_45 : decode cX1_paintOn 45 = .ok (.goto 54, 3) := by decide +kernel
theorem dX1_paintOn_48 : decode cX1_paintOn 48 = .ok (.bipush 16, 2) := by decide +kernel
theorem dX1_paintOn_50 : decode cX1_paintOn 50 = .ok (.iload 6, 2) := by decide +kernel
theorem dX1_paintOn_52 : decode cX1_paintOn 52 = .ok (.imul, 1) := by decide +kernel
theorem dX1_paintOn_53 : decode cX1_paintOn 53 = .ok (.aload_n 0, 1) := by decide +kernel
theorem dX1_paintOn_54 : decode cX1_paintOn 54 = .ok (.getfield 9, 3) := by decide +kernel
theorem dX1_paintOn_57 : decode cX1_paintOn 57 = .ok (.iload 7, 2) := by decide +kernel
theorem dX1_paintOn_59 : decode cX1_paintOn 59 = .ok (.iaload, 1) := by decide +kernel
theorem dX1_paintOn_60 : decode cX1_paintOn 60 = .ok (.invokestatic 21, 3) := by decide +kernel
theorem dX1_paintOn_63 : decode cX1_paintOn 63 = .ok (.iadd, 1) := by decide +kernel
theorem dX1_paintOn_64 : decode cX1_paintOn 64 = .ok (.istore 6, 2) := by decide +kernel
theorem dX1_paintOn_66 : decode cX1_paintOn 66 = .ok (.iinc 5 1, 3) := by decide +kernel
theorem dX1_paintOn_69 : decode cX1_paintOn 69 = .ok (.iload 5, 2) := by decide +kernel
theorem dX1_paintOn_71 : decode cX1_paintOn 71 = .ok (.iconst 3, 1) := by decide +kernel
theorem dX1_paintOn_72 : decode cX1_paintOn 72 = .ok (.if_icmp .ne 27, 3) := by decide +kernel
theorem dX1_paintOn_75 : decode cX1_paintOn 75 = .ok (.iload_n 3, 1) := by decide +kernel
theorem dX1_paintOn_76 : decode cX1_paintOn 76 = .ok (.invokestatic 25, 3) := by decide +kernel
theorem dX1_paintOn_79 : decode cX1_paintOn 79 = .ok (.ifCond .eq 20, 3) := by decide +kernel
theorem dX1_paintOn_82 : decode cX1_paintOn 82 = .ok (.aload_n 1, 1) := by decide +kernel
theorem dX1_paintOn_83 : decode cX1_paintOn 83 = .ok (.iload_n 3, 1) := by decide +kernel
theorem dX1_paintOn_84 : decode cX1_paintOn 84 = .ok (.iload 6, 2) := by decide +kernel
theorem dX1_paintOn_86 : decode cX1_paintOn 86 = .ok (.iastore, 1) := by decide +kernel
theorem dX1_paintOn_87 : decode cX1_paintOn 87 = .ok (.iinc 3 1, 3) := by decide +kernel
theorem dX1_paintOn_90 : decode cX1_paintOn 90 = .ok (.iinc 4 1, 3) := by decide +kernel
theorem dX1_paintOn_93 : decode cX1_paintOn 93 = .ok (.iconst 0, 1) := by decide +kernel
theorem dX1_paintOn_94 : decode cX1_paintOn 94 = .ok (.istore 5, 2) := by decide +kernel
theorem dX1_paintOn_96 : decode cX1_paintOn 96 = .ok (.iconst 0, 1) := by decide +kernel
theorem dX1_paintOn_97 : decode cX1_paintOn 97 = .ok (.istore 6, 2) := by decide +kernel
theorem dX1_paintOn_99 : decode cX1_paintOn 99 = .ok (.iinc 7 1, 3) := by decide +kernel
theorem dX1_paintOn_102 : decode cX1_paintOn 102 = .ok (.goto (-88), 3) := by decide +kernel
theorem dX1_paintOn_105 : decode cX1_paintOn 105 = .ok (.iload 4, 2) := by decide +kernel
theorem dX1_paintOn_107 : decode cX1_paintOn 107 = .ok (.ireturn, 1) := by decide +kernel
theorem dX1_partOf_0 : decode cX1_partOf 0 = .ok (.iload_n 0, 1) := by decide +kernel
theorem dX1_partOf_1 : decode cX1_partOf 1 = .ok (.bipush 48, 2) := by decide +kernel
theorem dX1_partOf_3 : decode cX1_partOf 3 = .ok (.if_icmp .lt 14, 3) := by decide +kernel
theorem dX1_partOf_6 : decode cX1_partOf 6 = .ok (.iload_n 0, 1) := by decide +kernel
theorem dX1_partOf_7 : decode cX1_partOf 7 = .ok (.bipush 57, 2) := by decide +kernel
theorem dX1_partOf_9 : decode cX1_partOf 9 = .ok (.if_icmp .gt 8, 3) := by decide +kernel
theorem dX1_partOf_12 : decode cX1_partOf 12 = .ok (.iload_n 0, 1) := by decide +kernel
theorem dX1_partOf_13 : decode cX1_partOf 13 = .ok (.bipush 48, 2) := by decide +kernel
theorem dX1_partOf_15 : decode cX1_partOf 15 = .ok (.isub, 1) := by decide +kernel
theorem dX1_partOf_16 : decode cX1_partOf 16 = .ok (.ireturn, 1) := by decide +kernel
theorem dX1_partOf_17 : decode cX1_partOf 17 = .ok (.iload_n 0, 1) := by decide +kernel
theorem dX1_partOf_18 : decode cX1_partOf 18 = .ok (.bipush 97, 2) := by decide +kernel
theorem dX1_partOf_20 : decode cX1_partOf 20 = .ok (.if_icmp .lt 19, 3) := by decide +kernel
theorem dX1_partOf_23 : decode cX1_partOf 23 = .ok (.iload_n 0, 1) := by decide +kernel
theorem dX1_partOf_24 : decode cX1_partOf 24 = .ok (.bipush 102, 2) := by decide +kernel
theorem dX1_partOf_26 : decode cX1_partOf 26 = .ok (.if_icmp .gt 13, 3) := by decide +kernel
theorem dX1_partOf_29 : decode cX1_partOf 29 = .ok (.iload_n 0, 1) := by decide +kernel
theorem dX1_partOf_30 : decode cX1_partOf 30 = .ok (.bipush 97, 2) := by decide +kernel
theorem dX1_partOf_32 : decode cX1_partOf 32 = .ok (.isub, 1) := by decide +kernel
theorem dX1_partOf_33 : decode cX1_partOf 33 = .ok (.bipush 10, 2) := by decide +kernel
theorem dX1_partOf_35 : decode cX1_partOf 35 = .ok (.iadd, 1) := by decide +kernel
theorem dX1_partOf_36 : decode cX1_partOf 36 = .ok (.goto 4, 3) := by decide +kernel
theorem dX1_partOf_39 : decode cX1_partOf 39 = .ok (.iconst (-1), 1) := by decide +kernel
theorem dX1_partOf_40 : decode cX1_partOf 40 = .ok (.ireturn, 1) := by decide +kernel
theorem dX2_init_0 : decode cX2_init 0 = .ok (.aload_n 0, 1) := by decide +kernel
theorem dX2_init_1 : decode cX2_init 1 = .ok (.invokespecial 3, 3) := by decide +kernel
theorem dX2_init_4 : decode cX2_init 4 = .ok (.aload_n 0, 1) := by decide +kernel
theorem dX2_init_5 : decode cX2_init 5 = .ok (.bipush 6, 2) := by decide +kernel
theorem dX2_init_7 : decode cX2_init 7 = .ok (.newarray .int, 2) := by decide +kernel
theorem dX2_init_9 : decode cX2_init 9 = .ok (.putfield 9, 3) := by decide +kernel
theorem dX2_init_12 : decode cX2_init 12 = .ok (.aload_n 0, 1) := by decide +kernel
theorem dX2_init_13 : decode cX2_init 13 = .ok (.bipush 48, 2) := by decide +kernel
theorem dX2_init_15 : decode cX2_init 15 = .ok (.newarray .int, 2) := by decide +kernel
theorem dX2_init_17 : decode cX2_init 17 = .ok (.putfield 15, 3) := by decide +kernel
theorem dX2_init_20 : decode cX2_init 20 = .ok (.aload_n 0, 1) := by decide +kernel
theorem dX2_init_21 : decode cX2_init 21 = .ok (.bipush 48, 2) := by decide +kernel
theorem dX2_init_23 : decode cX2_init 23 = .ok (.newarray .int, 2) := by decide +kernel
theorem dX2_init_25 : decode cX2_init 25 = .ok (.putfield 18, 3) := by decide +kernel
theorem dX2_init_28 : decode cX2_init 28 = .ok (.aload_n 0, 1) := by decide +kernel
theorem dX2_init_29 : decode cX2_init 29 = .ok (.bipush 48, 2) := by decide +kernel
theorem dX2_init_31 : decode cX2_init 31 = .ok (.newarray .boolean, 2) := by decide +kernel
theorem dX2_init_33 : decode cX2_init 33 = .ok (.putfield 21, 3) := by decide +kernel
theorem dX2_init_36 : decode cX2_init 36 = .ok (.aload_n 0, 1) := by decide +kernel
theorem dX2_init_37 : decode cX2_init 37 = .ok (.sipush 240, 3) := by decide +kernel
theorem dX2_init_40 : decode cX2_init 40 = .ok (.putfield 25, 3) := by decide +kernel
theorem dX2_init_43 : decode cX2_init 43 = .ok (.getstatic 29, 3) := by decide +kernel
theorem dX2_init_46 : decode cX2_init 46 = .ok (.iconst 0, 1) := by decide +kernel
theorem dX2_init_47 : decode cX2_init 47 = .ok (.aload_n 0, 1) := by decide +kernel
theorem dX2_init_48 : decode cX2_init 48 = .ok (.getfield 9, 3) := by decide +kernel
theorem dX2_init_51 : decode cX2_init 51 = .ok (.iconst 0, 1) := by decide +kernel
theorem dX2_init_52 : decode cX2_init 52 = .ok (.bipush 6, 2) := by decide +kernel
theorem dX2_init_54 : decode cX2_init 54 = .ok (.invokestatic 32, 3) := by decide +kernel
theorem dX2_init_57 : decode cX2_init 57 = .ok (.return_, 1) := by decide +kernel
theorem dX2_copyFrom_0 : decode cX2_copyFrom 0 = .ok (.aload_n 1, 1) := by decide +kernel
theorem dX2_copyFrom_1 : decode cX2_copyFrom 1 = .ok (.getfield 9, 3) := by decide +kernel
theorem dX2_copyFrom_4 : decode cX2_copyFrom 4 = .ok (.iconst 0, 1) := by decide +kernel
theorem dX2_copyFrom_5 : decode cX2_copyFrom 5 = .ok (.aload_n 0, 1) := by decide +kernel
theorem dX2_copyFrom_6 : decode cX2_copyFrom 6 = .ok (.getfield 9, 3) := by decide +kernel
theorem dX2_copyFrom_9 : decode cX2_copyFrom 9 = .ok (.iconst 0, 1) := by decide +kernel
theorem dX2_copyFrom_10 : decode cX2_copyFrom 10 = .ok (.bipush 6, 2) := by decide +kernel
theorem dX2_copyFrom_12 : decode cX2_copyFrom 12 = .ok (.invokestatic 32, 3) := by decide +kernel
theorem dX2_copyFrom_15 : decode cX2_copyFrom 15 = .ok (.aload_n 1, 1) := by decide +kernel
theorem dX2_copyFrom_16 : decode cX2_copyFrom 16 = .ok (.getfield 15, 3) := by decide +kernel
theorem dX2_copyFrom_19 : decode cX2_copyFrom 19 = .ok (.iconst 0, 1) := by decide +kernel
theorem dX2_copyFrom_20 : decode cX2_copyFrom 20 = .ok (.aload_n 0, 1) := by decide +kernel
theorem dX2_copyFrom_21 : decode cX2_copyFrom 21 = .ok (.getfield 15, 3) := by decide +kernel
theorem dX2_copyFrom_24 : decode cX2_copyFrom 24 = .ok (.iconst 0, 1) := by decide +kernel
theorem dX2_copyFrom_25 : decode cX2_copyFrom 25 = .ok (.bipush 48, 2) := by decide +kernel
theorem dX2_copyFrom_27 : decode cX2_copyFrom 27 = .ok (.invokestatic 32, 3) := by decide +kernel
theorem dX2_copyFrom_30 : decode cX2_copyFrom 30 = .ok (.aload_n 1, 1) := by decide +kernel
theorem dX2_copyFrom_31 : decode cX2_copyFrom 31 = .ok (.getfield 18, 3) := by decide +kernel
theorem dX2_copyFrom_34 : decode cX2_copyFrom 34 = .ok (.iconst 0, 1) := by decide +kernel
theorem dX2_copyFrom_35 : decode cX2_copyFrom 35 = .ok (.aload_n 0, 1) := by decide +kernel
theorem dX2_copyFrom_36 : decode cX2_copyFrom 36 = .ok (.getfield 18, 3) := by decide +kernel
theorem dX2_copyFrom_39 : decode cX2_copyFrom 39 = .ok (.iconst 0, 1) := by decide +kernel
theorem dX2_copyFrom_40 : decode cX2_copyFrom 40 = .ok (.bipush 48, 2) := by decide +kernel
theorem dX2_copyFrom_42 : decode cX2_copyFrom 42 = .ok (.invokestatic 32, 3) := by decide +kernel
theorem dX2_copyFrom_45 : decode cX2_copyFrom 45 = .ok (.iconst 0, 1) := by decide +kernel
theorem dX2_copyFrom_46 : decode cX2_copyFrom 46 = .ok (.istore_n 2, 1) := by decide +kernel
theorem dX2_copyFrom_47 : decode cX2_copyFrom 47 = .ok (.iload_n 2, 1) := by decide +kernel
theorem dX2_copyFrom_48 : decode cX2_copyFrom 48 = .ok (.bipush 48, 2) := by decide +kernel
theorem dX2_copyFrom_50 : decode cX2_copyFrom 50 = .ok (.if_icmp .ge 21, 3) := by decide +kernel
theorem dX2_copyFrom_53 : decode cX2_copyFrom 53 = .ok (.aload_n 0, 1) := by decide +kernel
theorem dX2_copyFrom_54 : decode cX2_copyFrom 54 = .ok (.getfield 21, 3) := by decide +kernel
theorem dX2_copyFrom_57 : decode cX2_copyFrom 57 = .ok (.iload_n 2, 1) := by decide +kernel
theorem dX2_copyFrom_58 : decode cX2_copyFrom 58 = .ok (.aload_n 1, 1) := by decide +kernel
theorem dX2_copyFrom_59 : decode cX2_copyFrom 59 = .ok (.getfield 21, 3) := by decide +kernel
theorem dX2_copyFrom_62 : decode cX2_copyFrom 62 = .ok (.iload_n 2, 1) := by decide +kernel
theorem dX2_copyFrom_63 : decode cX2_copyFrom 63 = .ok (.baload, 1) := by decide +kernel
theorem dX2_copyFrom_64 : decode cX2_copyFrom 64 = .ok (.bastore, 1) := by decide +kernel
theorem dX2_copyFrom_65 : decode cX2_copyFrom 65 = .ok (.iinc 2 1, 3) := by decide +kernel
theorem dX2_copyFrom_68 : decode cX2_copyFrom 68 = .ok (.goto (-21), 3) := by decide +kernel
theorem dX2_copyFrom_71 : decode cX2_copyFrom 71 = .ok (.aload_n 0, 1) := by decide +kernel
theorem dX2_copyFrom_72 : decode cX2_copyFrom 72 = .ok (.aload_n 1, 1) := by decide +kernel
theorem dX2_copyFrom_73 : decode cX2_copyFrom 73 = .ok (.getfield 25, 3) := by decide +kernel
theorem dX2_copyFrom_76 : decode cX2_copyFrom 76 = .ok (.putfield 25, 3) := by decide +kernel
theorem dX2_copyFrom_79 : decode cX2_copyFrom 79 = .ok (.return_, 1) := by decide +kernel
set_option maxRecDepth 20000 in
theorem ggX2_changeSetting_X4_isSetting : GoodIn wsX2_changeSetting wsX4_isSetting := goodIn_r _ [4] (by decide +kernel) (by decide +kernel)
set_option maxRecDepth 20000 in
theorem gX2_changeSetting_X4_isSetting_n38 : GoodIn wsX2_changeSetting (wsX4_isSetting) := ggX2_changeSetting_X4_isSetting
theorem dX2_changeSetting_0 : decode cX2_changeSetting 0 = .ok (.iload_n 1, 1) := by decide +kernel
theorem dX2_changeSetting_1 : decode cX2_changeSetting 1 = .ok (.invokestatic 38, 3) := by decide +kernel
theorem dX2_changeSetting_4 : decode cX2_changeSetting 4 = .ok (.ifCond .ne 6, 3) := by decide +kernel
theorem dX2_changeSetting_7 : decode cX2_changeSetting 7 = .ok (.bipush (-2), 2) := by decide +kernel
theorem dX2_changeSetting_9 : decode cX2_changeSetting 9 = .ok (.ireturn, 1) := by decide +kernel
theorem dX2_changeSetting_10 : decode cX2_changeSetting 10 = .ok (.aload_n 0, 1) := by decide +kernel
theorem dX2_changeSetting_11 : decode cX2_changeSetting 11 = .ok (.getfield 9, 3) := by decide +kernel
theorem dX2_changeSetting_14 : decode cX2_changeSetting 14 = .ok (.iload_n 1, 1) := by decide +kernel
theorem dX2_changeSetting_15 : decode cX2_changeSetting 15 = .ok (.iaload, 1) := by decide +kernel
theorem dX2_changeSetting_16 : decode cX2_changeSetting 16 = .ok (.istore_n 3, 1) := by decide +kernel
theorem dX2_changeSetting_17 : decode cX2_changeSetting 17 = .ok (.aload_n 0, 1) := by decide +kernel
theorem dX2_changeSetting_18 : decode cX2_changeSetting 18 = .ok (.getfield 9, 3) := by decide +kernel
theorem dX2_changeSetting_21 : decode cX2_changeSetting 21 = .ok (.iload_n 1, 1) := by decide +kernel
theorem dX2_changeSetting_22 : decode cX2_changeSetting 22 = .ok (.iload_n 2, 1) := by decide +kernel
theorem dX2_changeSetting_23 : decode cX2_changeSetting 23 = .ok (.iastore, 1) := by decide +kernel
theorem dX2_changeSetting_24 : decode cX2_changeSetting 24 = .ok (.iload_n 3, 1) := by decide +kernel
theorem dX2_changeSetting_25 : decode cX2_changeSetting 25 = .ok (.ireturn, 1) := by decide +kernel
theorem dX2_picture_0 : decode cX2_picture 0 = .ok (.iload_n 1, 1) := by decide +kernel
theorem dX2_picture_1 : decode cX2_picture 1 = .ok (.ifCond .eq 10, 3) := by decide +kernel
theorem dX2_picture_4 : decode cX2_picture 4 = .ok (.aload_n 0, 1) := by decide +kernel
theorem dX2_picture_5 : decode cX2_picture 5 = .ok (.getfield 15, 3) := by decide +kernel
theorem dX2_picture_8 : decode cX2_picture 8 = .ok (.goto 7, 3) := by decide +kernel
theorem dX2_picture_11 : decode cX2_picture 11 = .ok (.aload_n 0, 1) := by decide +kernel
theorem dX2_picture_12 : decode cX2_picture 12 = .ok (.getfield 18, 3) := by decide +kernel
theorem dX2_picture_15 : decode cX2_picture 15 = .ok (.areturn, 1) := by decide +kernel
set_option maxRecDepth 20000 in
theorem ggX2_distanceOf_X4_isPixel : GoodIn wsX2_distanceOf wsX4_isPixel := goodIn_r _ [5] (by decide +kernel) (by decide +kernel)
set_option maxRecDepth 20000 in
theorem gX2_distanceOf_X4_isPixel_n42 : GoodIn wsX2_distanceOf (wsX4_isPixel) := ggX2_distanceOf_X4_isPixel
set_option maxRecDepth 20000 in
theorem ggX2_distanceOf_X4_distance : GoodIn wsX2_distanceOf wsX4_distance := goodIn_r _ [7, 8, 9, 10, 11, 12, 13, 4, 14, 15, 16, 17] (by decide +kernel) (by decide +kernel)
set_option maxRecDepth 20000 in
theorem gX2_distanceOf_X4_distance_n45 : GoodIn wsX2_distanceOf (wsX4_distance) := ggX2_distanceOf_X4_distance
theorem dX2_distanceOf_0 : decode cX2_distanceOf 0 = .ok (.iload_n 1, 1) := by decide +kernel
theorem dX2_distanceOf_1 : decode cX2_distanceOf 1 = .ok (.invokestatic 42, 3) := by decide +kernel
theorem dX2_distanceOf_4 : decode cX2_distanceOf 4 = .ok (.ifCond .eq 19, 3) := by decide +kernel
theorem dX2_distanceOf_7 : decode cX2_distanceOf 7 = .ok (.aload_n 0, 1) := by decide +kernel
theorem dX2_distanceOf_8 : decode cX2_distanceOf 8 = .ok (.getfield 15, 3) := by decide +kernel
theorem dX2_distanceOf_11 : decode cX2_distanceOf 11 = .ok (.iload_n 1, 1) := by decide +kernel
theorem dX2_distanceOf_12 : decode cX2_distanceOf 12 = .ok (.iaload, 1) := by decide +kernel
theorem dX2_distanceOf_13 : decode cX2_distanceOf 13 = .ok (.aload_n 0, 1) := by decide +kernel
theorem dX2_distanceOf_14 : decode cX2_distanceOf 14 = .ok (.getfield 25, 3) := by decide +kernel
theorem dX2_distanceOf_17 : decode cX2_distanceOf 17 = .ok (.invokestatic 45, 3) := by decide +kernel
theorem dX2_distanceOf_20 : decode cX2_distanceOf 20 = .ok (.goto 4, 3) := by decide +kernel
theorem dX2_distanceOf_23 : decode cX2_distanceOf 23 = .ok (.iconst (-1), 1) := by decide +kernel
theorem dX2_distanceOf_24 : decode cX2_distanceOf 24 = .ok (.ireturn, 1) := by decide +kernel
theorem dX2_marked_0 : decode cX2_marked 0 = .ok (.iconst 0, 1) := by decide +kernel
theorem dX2_marked_1 : decode cX2_marked 1 = .ok (.istore_n 1, 1) := by decide +kernel
theorem dX2_marked_2 : decode cX2_marked 2 = .ok (.iconst 0, 1) := by decide +kernel
theorem dX2_marked_3 : decode cX2_marked 3 = .ok (.istore_n 2, 1) := by decide +kernel
theorem dX2_marked_4 : decode cX2_marked 4 = .ok (.iload_n 2, 1) := by decide +kernel
theorem dX2_marked_5 : decode cX2_marked 5 = .ok (.bipush 48, 2) := by decide +kernel
theorem dX2_marked_7 : decode cX2_marked 7 = .ok (.if_icmp .ge 21, 3) := by decide +kernel
theorem dX2_marked_10 : decode cX2_marked 10 = .ok (.aload_n 0, 1) := by decide +kernel
theorem dX2_marked_11 : decode cX2_marked 11 = .ok (.getfield 21, 3) := by decide +kernel
theorem dX2_marked_14 : decode cX2_marked 14 = .ok (.iload_n 2, 1) := by decide +kernel
theorem dX2_marked_15 : decode cX2_marked 15 = .ok (.baload, 1) := by decide +kernel
theorem dX2_marked_16 : decode cX2_marked 16 = .ok (.ifCond .eq 6, 3) := by decide +kernel
theorem dX2_marked_19 : decode cX2_marked 19 = .ok (.iinc 1 1, 3) := by decide +kernel
theorem dX2_marked_22 : decode cX2_marked 22 = .ok (.iinc 2 1, 3) := by decide +kernel
theorem dX2_marked_25 : decode cX2_marked 25 = .ok (.goto (-21), 3) := by decide +kernel
theorem dX2_marked_28 : decode cX2_marked 28 = .ok (.iload_n 1, 1) := by decide +kernel
theorem dX2_marked_29 : decode cX2_marked 29 = .ok (.ireturn, 1) := by decide +kernel
theorem dX3_init_0 : decode cX3_init 0 = .ok (.aload_n 0, 1) := by decide +kernel
theorem dX3_init_1 : decode cX3_init 1 = .ok (.invokespecial 3, 3) := by decide +kernel
theorem dX3_init_4 : decode cX3_init 4 = .ok (.aload_n 0, 1) := by decide +kernel
theorem dX3_init_5 : decode cX3_init 5 = .ok (.bipush 48, 2) := by decide +kernel
theorem dX3_init_7 : decode cX3_init 7 = .ok (.newarray .int, 2) := by decide +kernel
theorem dX3_init_9 : decode cX3_init 9 = .ok (.putfield 9, 3) := by decide +kernel
theorem dX3_init_12 : decode cX3_init 12 = .ok (.aload_n 0, 1) := by decide +kernel
theorem dX3_init_13 : decode cX3_init 13 = .ok (.bipush 48, 2) := by decide +kernel
theorem dX3_init_15 : decode cX3_init 15 = .ok (.newarray .int, 2) := by decide +kernel
theorem dX3_init_17 : decode cX3_init 17 = .ok (.putfield 15, 3) := by decide +kernel
theorem dX3_init_20 : decode cX3_init 20 = .ok (.aload_n 0, 1) := by decide +kernel
theorem dX3_init_21 : decode cX3_init 21 = .ok (.bipush 48, 2) := by decide +kernel
theorem dX3_init_23 : decode cX3_init 23 = .ok (.newarray .int, 2) := by decide +kernel
theorem dX3_init_25 : decode cX3_init 25 = .ok (.putfield 18, 3) := by decide +kernel
theorem dX3_init_28 : decode cX3_init 28 = .ok (.aload_n 0, 1) := by decide +kernel
theorem dX3_init_29 : decode cX3_init 29 = .ok (.bipush 48, 2) := by decide +kernel
theorem dX3_init_31 : decode cX3_init 31 = .ok (.newarray .int, 2) := by decide +kernel
theorem dX3_init_33 : decode cX3_init 33 = .ok (.putfield 21, 3) := by decide +kernel
theorem dX3_init_36 : decode cX3_init 36 = .ok (.aload_n 0, 1) := by decide +kernel
theorem dX3_init_37 : decode cX3_init 37 = .ok (.bipush 48, 2) := by decide +kernel
theorem dX3_init_39 : decode cX3_init 39 = .ok (.newarray .int, 2) := by decide +kernel
theorem dX3_init_41 : decode cX3_init 41 = .ok (.putfield 24, 3) := by decide +kernel
theorem dX3_init_44 : decode cX3_init 44 = .ok (.aload_n 0, 1) := by decide +kernel
theorem dX3_init_45 : decode cX3_init 45 = .ok (.bipush 48, 2) := by decide +kernel
theorem dX3_init_47 : decode cX3_init 47 = .ok (.newarray .int, 2) := by decide +kernel
theorem dX3_init_49 : decode cX3_init 49 = .ok (.putfield 27, 3) := by decide +kernel
theorem dX3_init_52 : decode cX3_init 52 = .ok (.aload_n 0, 1) := by decide +kernel
theorem dX3_init_53 : decode cX3_init 53 = .ok (.bipush 48, 2) := by decide +kernel
theorem dX3_init_55 : decode cX3_init 55 = .ok (.newarray .int, 2) := by decide +kernel
theorem dX3_init_57 : decode cX3_init 57 = .ok (.putfield 30, 3) := by decide +kernel
theorem dX3_init_60 : decode cX3_init 60 = .ok (.aload_n 0, 1) := by decide +kernel
theorem dX3_init_61 : decode cX3_init 61 = .ok (.bipush 48, 2) := by decide +kernel
theorem dX3_init_63 : decode cX3_init 63 = .ok (.newarray .boolean, 2) := by decide +kernel
theorem dX3_init_65 : decode cX3_init 65 = .ok (.putfield 33, 3) := by decide +kernel
theorem dX3_init_68 : decode cX3_init 68 = .ok (.aload_n 0, 1) := by decide +kernel
theorem dX3_init_69 : decode cX3_init 69 = .ok (.bipush 48, 2) := by decide +kernel
theorem dX3_init_71 : decode cX3_init 71 = .ok (.newarray .int, 2) := by decide +kernel
theorem dX3_init_73 : decode cX3_init 73 = .ok (.putfield 37, 3) := by decide +kernel
theorem dX3_init_76 : decode cX3_init 76 = .ok (.aload_n 0, 1) := by decide +kernel
theorem dX3_init_77 : decode cX3_init 77 = .ok (.iconst 0, 1) := by decide +kernel
theorem dX3_init_78 : decode cX3_init 78 = .ok (.putfield 40, 3) := by decide +kernel
theorem dX3_init_81 : decode cX3_init 81 = .ok (.return_, 1) := by decide +kernel
set_option maxRecDepth 20000 in
theorem ggX3_show_X3_findOpaque : GoodIn wsX3_show wsX3_findOpaque := goodIn_r _ [5, 6, 7, 8, 9, 10, 11, 12, 13, 14, 15, 16, 17, 18, 19, 20, 21, 22, 23, 24, 25, 26, 27, 28, 29, 30, 31, 32, 4, 33, 34, 35, 36, 37, 38, 39, 40, 41, 42, 43, 44, 45, 46, 47, 48, 49, 50, 51, 52, 90, 91, 92, 93, 94, 95, 96, 97, 98, 99, 100, 101, 102, 103, 104] (by decide +kernel) (by decide +kernel)
set_option maxRecDepth 20000 in
theorem gX3_show_X3_findOpaque : GoodIn wsX3_show (wsV RX3 44 RX3 yX3_findOpaque wsX3_findOpaque) := goodIn_app (goodIn_of _ (by decide +kernel)) ggX3_show_X3_findOpaque
set_option maxRecDepth 20000 in
theorem ggX3_show_X3_findKinds : GoodIn wsX3_show wsX3_findKinds := goodIn_r _ [56, 57, 58, 59, 60, 61, 4, 62, 8, 16, 17, 18, 63, 64, 65, 66, 51, 52, 95, 96, 97, 98, 99, 100, 101, 102, 103, 104, 90, 91, 92, 93, 94] (by decide +kernel) (by decide +kernel)
set_option maxRecDepth 20000 in
theorem gX3_show_X3_findKinds : GoodIn wsX3_show (wsV RX3 48 RX3 yX3_findKinds wsX3_findKinds) := goodIn_app (goodIn_of _ (by decide +kernel)) ggX3_show_X3_findKinds
set_option maxRecDepth 20000 in
theorem ggX3_show_X3_compose : GoodIn wsX3_show wsX3_compose := goodIn_r _ [70, 71, 72, 73, 74, 57, 75, 76, 77, 8, 78, 17, 79, 25, 26, 27, 28, 29, 30, 80, 81, 82, 83, 23, 84, 85, 86, 4, 87, 6, 88, 89, 90, 91, 92, 93, 94, 95, 96, 97, 98, 99, 100, 101, 102, 103, 104] (by decide +kernel) (by decide +kernel)
set_option maxRecDepth 20000 in
theorem gX3_show_X3_compose : GoodIn wsX3_show (wsV RX3 51 RX3 yX3_compose wsX3_compose) := goodIn_app (goodIn_of _ (by decide +kernel)) ggX3_show_X3_compose
theorem dX3_show_0 : decode cX3_show 0 = .ok (.aload_n 0, 1) := by decide +kernel
theorem dX3_show_1 : decode cX3_show 1 = .ok (.aload_n 1, 1) := by decide +kernel
theorem dX3_show_2 : decode cX3_show 2 = .ok (.invokevirtual 44, 3) := by decide +kernel
theorem dX3_show_5 : decode cX3_show 5 = .ok (.aload_n 0, 1) := by decide +kernel
theorem dX3_show_6 : decode cX3_show 6 = .ok (.aload_n 1, 1) := by decide +kernel
theorem dX3_show_7 : decode cX3_show 7 = .ok (.invokevirtual 48, 3) := by decide +kernel
theorem dX3_show_10 : decode cX3_show 10 = .ok (.aload_n 0, 1) := by decide +kernel
theorem dX3_show_11 : decode cX3_show 11 = .ok (.aload_n 1, 1) := by decide +kernel
theorem dX3_show_12 : decode cX3_show 12 = .ok (.invokevirtual 51, 3) := by decide +kernel
theorem dX3_show_15 : decode cX3_show 15 = .ok (.return_, 1) := by decide +kernel
set_option maxRecDepth 20000 in
theorem ggX3_clearPixels_X3_findOpaque : GoodIn wsX3_clearPixels wsX3_findOpaque := goodIn_r _ [7, 8, 9, 1, 10, 11, 12, 13, 14, 15, 16, 17, 18, 19, 20, 21, 22, 23, 24, 25, 26, 27, 28, 29, 30, 31, 32, 33, 6, 34, 35, 36, 37, 38, 39, 40, 41, 42, 43, 44, 45, 46, 47, 48, 49, 50, 51, 52, 53, 64, 65, 66, 67, 68, 54, 55, 56, 57, 58, 59, 60, 61, 62, 63] (by decide +kernel) (by decide +kernel)
set_option maxRecDepth 20000 in
theorem gX3_clearPixels_X3_findOpaque : GoodIn wsX3_clearPixels (wsV RX3 44 RX3 yX3_findOpaque wsX3_findOpaque) := goodIn_app (goodIn_of _ (by decide +kernel)) ggX3_clearPixels_X3_findOpaque
theorem dX3_clearPixels_0 : decode cX3_clearPixels 0 = .ok (.aload_n 0, 1) := by decide +kernel
theorem dX3_clearPixels_1 : decode cX3_clearPixels 1 = .ok (.aload_n 1, 1) := by decide +kernel
theorem dX3_clearPixels_2 : decode cX3_clearPixels 2 = .ok (.invokevirtual 44, 3) := by decide +kernel
theorem dX3_clearPixels_5 : decode cX3_clearPixels 5 = .ok (.iconst 0, 1) := by decide +kernel
theorem dX3_clearPixels_6 : decode cX3_clearPixels 6 = .ok (.istore_n 2, 1) := by decide +kernel
theorem dX3_clearPixels_7 : decode cX3_clearPixels 7 = .ok (.iconst 0, 1) := by decide +kernel
theorem dX3_clearPixels_8 : decode cX3_clearPixels 8 = .ok (.istore_n 3, 1) := by decide +kernel
theorem dX3_clearPixels_9 : decode cX3_clearPixels 9 = .ok (.iload_n 3, 1) := by decide +kernel
theorem dX3_clearPixels_10 : decode cX3_clearPixels 10 = .ok (.bipush 48, 2) := by decide +kernel
theorem dX3_clearPixels_12 : decode cX3_clearPixels 12 = .ok (.if_icmp .ge 30, 3) := by decide +kernel
theorem dX3_clearPixels_15 : decode cX3_clearPixels 15 = .ok (.aload_n 0, 1) := by decide +kernel
theorem dX3_clearPixels_16 : decode cX3_clearPixels 16 = .ok (.getfield 15, 3) := by decide +kernel
theorem dX3_clearPixels_19 : decode cX3_clearPixels 19 = .ok (.iload_n 3, 1) := by decide +kernel
theorem dX3_clearPixels_20 : decode cX3_clearPixels 20 = .ok (.iaload, 1) := by decide +kernel
theorem dX3_clearPixels_21 : decode cX3_clearPixels 21 = .ok (.ifCond .ne 15, 3) := by decide +kernel
theorem dX3_clearPixels_24 : decode cX3_clearPixels 24 = .ok (.aload_n 1, 1) := by decide +kernel
theorem dX3_clearPixels_25 : decode cX3_clearPixels 25 = .ok (.getfield 54, 3) := by decide +kernel
theorem dX3_clearPixels_28 : decode cX3_clearPixels 28 = .ok (.iload_n 3, 1) := by decide +kernel
theorem dX3_clearPixels_29 : decode cX3_clearPixels 29 = .ok (.baload, 1) := by decide +kernel
theorem dX3_clearPixels_30 : decode cX3_clearPixels 30 = .ok (.ifCond .ne 6, 3) := by decide +kernel
theorem dX3_clearPixels_33 : decode cX3_clearPixels 33 = .ok (.iinc 2 1, 3) := by decide +kernel
theorem dX3_clearPixels_36 : decode cX3_clearPixels 36 = .ok (.iinc 3 1, 3) := by decide +kernel
theorem dX3_clearPixels_39 : decode cX3_clearPixels 39 = .ok (.goto (-30), 3) := by decide +kernel
theorem dX3_clearPixels_42 : decode cX3_clearPixels 42 = .ok (.iload_n 2, 1) := by decide +kernel
theorem dX3_clearPixels_43 : decode cX3_clearPixels 43 = .ok (.ireturn, 1) := by decide +kernel
theorem dX3_ofKind_0 : decode cX3_ofKind 0 = .ok (.iconst 0, 1) := by decide +kernel
theorem dX3_ofKind_1 : decode cX3_ofKind 1 = .ok (.istore_n 2, 1) := by decide +kernel
theorem dX3_ofKind_2 : decode cX3_ofKind 2 = .ok (.iconst 0, 1) := by decide +kernel
theorem dX3_ofKind_3 : decode cX3_ofKind 3 = .ok (.istore_n 3, 1) := by decide +kernel
theorem dX3_ofKind_4 : decode cX3_ofKind 4 = .ok (.iload_n 3, 1) := by decide +kernel
theorem dX3_ofKind_5 : decode cX3_ofKind 5 = .ok (.bipush 48, 2) := by decide +kernel
theorem dX3_ofKind_7 : decode cX3_ofKind 7 = .ok (.if_icmp .ge 22, 3) := by decide +kernel
theorem dX3_ofKind_10 : decode cX3_ofKind 10 = .ok (.aload_n 0, 1) := by decide +kernel
theorem dX3_ofKind_11 : decode cX3_ofKind 11 = .ok (.getfield 18, 3) := by decide +kernel
theorem dX3_ofKind_14 : decode cX3_ofKind 14 = .ok (.iload_n 3, 1) := by decide +kernel
theorem dX3_ofKind_15 : decode cX3_ofKind 15 = .ok (.iaload, 1) := by decide +kernel
theorem dX3_ofKind_16 : decode cX3_ofKind 16 = .ok (.iload_n 1, 1) := by decide +kernel
theorem dX3_ofKind_17 : decode cX3_ofKind 17 = .ok (.if_icmp .ne 6, 3) := by decide +kernel
theorem dX3_ofKind_20 : decode cX3_ofKind 20 = .ok (.iinc 2 1, 3) := by decide +kernel
theorem dX3_ofKind_23 : decode cX3_ofKind 23 = .ok (.iinc 3 1, 3) := by decide +kernel
theorem dX3_ofKind_26 : decode cX3_ofKind 26 = .ok (.goto (-22), 3) := by decide +kernel
theorem dX3_ofKind_29 : decode cX3_ofKind 29 = .ok (.iload_n 2, 1) := by decide +kernel
theorem dX3_ofKind_30 : decode cX3_ofKind 30 = .ok (.ireturn, 1) := by decide +kernel
theorem dX3_closed_0 : decode cX3_closed 0 = .ok (.iconst 0, 1) := by decide +kernel
theorem dX3_closed_1 : decode cX3_closed 1 = .ok (.istore_n 1, 1) := by decide +kernel
theorem dX3_closed_2 : decode cX3_closed 2 = .ok (.iconst 0, 1) := by decide +kernel
theorem dX3_closed_3 : decode cX3_closed 3 = .ok (.istore_n 2, 1) := by decide +kernel
theorem dX3_closed_4 : decode cX3_closed 4 = .ok (.iload_n 2, 1) := by decide +kernel
theorem dX3_closed_5 : decode cX3_closed 5 = .ok (.bipush 48, 2) := by decide +kernel
theorem dX3_closed_7 : decode cX3_closed 7 = .ok (.if_icmp .ge 27, 3) := by decide +kernel
theorem dX3_closed_10 : decode cX3_closed 10 = .ok (.aload_n 0, 1) := by decide +kernel
theorem dX3_closed_11 : decode cX3_closed 11 = .ok (.getfield 15, 3) := by decide +kernel
theorem dX3_closed_14 : decode cX3_closed 14 = .ok (.iload_n 2, 1) := by decide +kernel
theorem dX3_closed_15 : decode cX3_closed 15 = .ok (.iaload, 1) := by decide +kernel
theorem dX3_closed_16 : decode cX3_closed 16 = .ok (.aload_n 0, 1) := by decide +kernel
theorem dX3_closed_17 : decode cX3_closed 17 = .ok (.getfield 9, 3) := by decide +kernel
theorem dX3_closed_20 : decode cX3_closed 20 = .ok (.iload_n 2, 1) := by decide +kernel
theorem dX3_closed_21 : decode cX3_closed 21 = .ok (.iaload, 1) := by decide +kernel
theorem dX3_closed_22 : decode cX3_closed 22 = .ok (.if_icmp .eq 6, 3) := by decide +kernel
theorem dX3_closed_25 : decode cX3_closed 25 = .ok (.iinc 1 1, 3) := by decide +kernel
theorem dX3_closed_28 : decode cX3_closed 28 = .ok (.iinc 2 1, 3) := by decide +kernel
theorem dX3_closed_31 : decode cX3_closed 31 = .ok (.goto (-27), 3) := by decide +kernel
theorem dX3_closed_34 : decode cX3_closed 34 = .ok (.iload_n 1, 1) := by decide +kernel
theorem dX3_closed_35 : decode cX3_closed 35 = .ok (.ireturn, 1) := by decide +kernel
set_option maxRecDepth 20000 in
theorem ggX3_spillLeft_X4_mainPart : GoodIn wsX3_spillLeft wsX4_mainPart := goodIn_r _ [5, 6, 7, 4, 8, 9, 10, 11] (by decide +kernel) (by decide +kernel)
set_option maxRecDepth 20000 in
theorem gX3_spillLeft_X4_mainPart_n62 : GoodIn wsX3_spillLeft (wsX4_mainPart) := ggX3_spillLeft_X4_mainPart
set_option maxRecDepth 20000 in
theorem ggX3_spillLeft_X4_spillIn : GoodIn wsX3_spillLeft wsX4_spillIn := goodIn_r _ [13, 14, 15, 16, 17, 6, 7, 4, 8, 9, 10, 11] (by decide +kernel) (by decide +kernel)
set_option maxRecDepth 20000 in
theorem gX3_spillLeft_X4_spillIn_n66 : GoodIn wsX3_spillLeft (wsX4_spillIn) := ggX3_spillLeft_X4_spillIn
theorem dX3_spillLeft_0 : decode cX3_spillLeft 0 = .ok (.aload_n 1, 1) := by decide +kernel
theorem dX3_spillLeft_1 : decode cX3_spillLeft 1 = .ok (.getfield 59, 3) := by decide +kernel
theorem dX3_spillLeft_4 : decode cX3_spillLeft 4 = .ok (.invokestatic 62, 3) := by decide +kernel
theorem dX3_spillLeft_7 : decode cX3_spillLeft 7 = .ok (.istore_n 2, 1) := by decide +kernel
theorem dX3_spillLeft_8 : decode cX3_spillLeft 8 = .ok (.iconst 0, 1) := by decide +kernel
theorem dX3_spillLeft_9 : decode cX3_spillLeft 9 = .ok (.istore_n 3, 1) := by decide +kernel
theorem dX3_spillLeft_10 : decode cX3_spillLeft 10 = .ok (.iconst 0, 1) := by decide +kernel
theorem dX3_spillLeft_11 : decode cX3_spillLeft 11 = .ok (.istore 4, 2) := by decide +kernel
theorem dX3_spillLeft_13 : decode cX3_spillLeft 13 = .ok (.iload 4, 2) := by decide +kernel
theorem dX3_spillLeft_15 : decode cX3_spillLeft 15 = .ok (.bipush 48, 2) := by decide +kernel
theorem dX3_spillLeft_17 : decode cX3_spillLeft 17 = .ok (.if_icmp .ge 23, 3) := by decide +kernel
theorem dX3_spillLeft_20 : decode cX3_spillLeft 20 = .ok (.iload_n 3, 1) := by decide +kernel
theorem dX3_spillLeft_21 : decode cX3_spillLeft 21 = .ok (.aload_n 0, 1) := by decide +kernel
theorem dX3_spillLeft_22 : decode cX3_spillLeft 22 = .ok (.getfield 30, 3) := by decide +kernel
theorem dX3_spillLeft_25 : decode cX3_spillLeft 25 = .ok (.iload 4, 2) := by decide +kernel
theorem dX3_spillLeft_27 : decode cX3_spillLeft 27 = .ok (.iaload, 1) := by decide +kernel
theorem dX3_spillLeft_28 : decode cX3_spillLeft 28 = .ok (.iload_n 2, 1) := by decide +kernel
theorem dX3_spillLeft_29 : decode cX3_spillLeft 29 = .ok (.invokestatic 66, 3) := by decide +kernel
theorem dX3_spillLeft_32 : decode cX3_spillLeft 32 = .ok (.iadd, 1) := by decide +kernel
theorem dX3_spillLeft_33 : decode cX3_spillLeft 33 = .ok (.istore_n 3, 1) := by decide +kernel
theorem dX3_spillLeft_34 : decode cX3_spillLeft 34 = .ok (.iinc 4 1, 3) := by decide +kernel
theorem dX3_spillLeft_37 : decode cX3_spillLeft 37 = .ok (.goto (-24), 3) := by decide +kernel
theorem dX3_spillLeft_40 : decode cX3_spillLeft 40 = .ok (.iload_n 3, 1) := by decide +kernel
theorem dX3_spillLeft_41 : decode cX3_spillLeft 41 = .ok (.ireturn, 1) := by decide +kernel
set_option maxRecDepth 20000 in
theorem ggX3_findOpaque_X2_distanceOf : GoodIn wsX3_findOpaque wsX2_distanceOf := goodIn_r _ [8, 9, 10, 11, 12, 13, 14, 15, 16, 17, 18, 19, 20, 21, 22, 23, 24, 25, 49, 50, 51, 52, 53] (by decide +kernel) (by decide +kernel)
set_option maxRecDepth 20000 in
theorem gX3_findOpaque_X2_distanceOf : GoodIn wsX3_findOpaque (wsV RX3 73 RX2 yX2_distanceOf wsX2_distanceOf) := goodIn_app (goodIn_of _ (by decide +kernel)) ggX3_findOpaque_X2_distanceOf
set_option maxRecDepth 20000 in
theorem ggX3_findOpaque_X3_rawOpaque : GoodIn wsX3_findOpaque wsX3_rawOpaque := goodIn_r _ [29] (by decide +kernel) (by decide +kernel)
set_option maxRecDepth 20000 in
theorem gX3_findOpaque_X3_rawOpaque : GoodIn wsX3_findOpaque (va_wsS RX3 76 yX3_rawOpaque wsX3_rawOpaque) := goodIn_app (goodIn_of _ (by decide +kernel)) ggX3_findOpaque_X3_rawOpaque
set_option maxRecDepth 20000 in
theorem ggX3_findOpaque_X3_closeHoles : GoodIn wsX3_findOpaque wsX3_closeHoles := goodIn_r _ [33, 34, 3, 35, 36, 37, 28, 38, 39, 40, 41, 12, 42, 43, 44, 45, 46, 2, 11, 13, 47, 48, 54, 55, 56, 57, 58, 59, 60, 61, 62, 63] (by decide +kernel) (by decide +kernel)
set_option maxRecDepth 20000 in
theorem gX3_findOpaque_X3_closeHoles : GoodIn wsX3_findOpaque (wsV RX3 80 RX3 yX3_closeHoles wsX3_closeHoles) := goodIn_app (goodIn_of _ (by decide +kernel)) ggX3_findOpaque_X3_closeHoles
theorem dX3_findOpaque_0 : decode cX3_findOpaque 0 = .ok (.aload_n 1, 1) := by decide +kernel
theorem dX3_findOpaque_1 : decode cX3_findOpaque 1 = .ok (.getfield 70, 3) := by decide +kernel
theorem dX3_findOpaque_4 : decode cX3_findOpaque 4 = .ok (.iconst 0, 1) := by decide +kernel
theorem dX3_findOpaque_5 : decode cX3_findOpaque 5 = .ok (.iaload, 1) := by decide +kernel
theorem dX3_findOpaque_6 : decode cX3_findOpaque 6 = .ok (.istore_n 2, 1) := by decide +kernel
theorem dX3_findOpaque_7 : decode cX3_findOpaque 7 = .ok (.aload_n 1, 1) := by decide +kernel
theorem dX3_findOpaque_8 : decode cX3_findOpaque 8 = .ok (.getfield 70, 3) := by decide +kernel
theorem dX3_findOpaque_11 : decode cX3_findOpaque 11 = .ok (.iconst 1, 1) := by decide +kernel
theorem dX3_findOpaque_12 : decode cX3_findOpaque 12 = .ok (.iaload, 1) := by decide +kernel
theorem dX3_findOpaque_13 : decode cX3_findOpaque 13 = .ok (.istore_n 3, 1) := by decide +kernel
theorem dX3_findOpaque_14 : decode cX3_findOpaque 14 = .ok (.iconst 0, 1) := by decide +kernel
theorem dX3_findOpaque_15 : decode cX3_findOpaque 15 = .ok (.istore 4, 2) := by decide +kernel
theorem dX3_findOpaque_17 : decode cX3_findOpaque 17 = .ok (.iload 4, 2) := by decide +kernel
theorem dX3_findOpaque_19 : decode cX3_findOpaque 19 = .ok (.bipush 48, 2) := by decide +kernel
theorem dX3_findOpaque_21 : decode cX3_findOpaque 21 = .ok (.if_icmp .ge 41, 3) := by decide +kernel
theorem dX3_findOpaque_24 : decode cX3_findOpaque 24 = .ok (.aload_n 0, 1) := by decide +kernel
theorem dX3_findOpaque_25 : decode cX3_findOpaque 25 = .ok (.getfield 9, 3) := by decide +kernel
theorem dX3_findOpaque_28 : decode cX3_findOpaque 28 = .ok (.iload 4, 2) := by decide +kernel
theorem dX3_findOpaque_30 : decode cX3_findOpaque 30 = .ok (.aload_n 1, 1) := by decide +kernel
theorem dX3_findOpaque_31 : decode cX3_findOpaque 31 = .ok (.iload 4, 2) := by decide +kernel
theorem dX3_findOpaque_33 : decode cX3_findOpaque 33 = .ok (.invokevirtual 73, 3) := by decide +kernel
theorem dX3_findOpaque_36 : decode cX3_findOpaque 36 = .ok (.iload_n 2, 1) := by decide +kernel
theorem dX3_findOpaque_37 : decode cX3_findOpaque 37 = .ok (.iload_n 3, 1) := by decide +kernel
theorem dX3_findOpaque_38 : decode cX3_findOpaque 38 = .ok (.invokestatic 76, 3) := by decide +kernel
theorem dX3_findOpaque_41 : decode cX3_findOpaque 41 = .ok (.iastore, 1) := by decide +kernel
theorem dX3_findOpaque_42 : decode cX3_findOpaque 42 = .ok (.aload_n 0, 1) := by decide +kernel
theorem dX3_findOpaque_43 : decode cX3_findOpaque 43 = .ok (.getfield 15, 3) := by decide +kernel
theorem dX3_findOpaque_46 : decode cX3_findOpaque 46 = .ok (.iload 4, 2) := by decide +kernel
theorem dX3_findOpaque_48 : decode cX3_findOpaque 48 = .ok (.aload_n 0, 1) := by decide +kernel
theorem dX3_findOpaque_49 : decode cX3_findOpaque 49 = .ok (.getfield 9, 3) := by decide +kernel
theorem dX3_findOpaque_52 : decode cX3_findOpaque 52 = .ok (.iload 4, 2) := by decide +kernel
theorem dX3_findOpaque_54 : decode cX3_findOpaque 54 = .ok (.iaload, 1) := by decide +kernel
theorem dX3_findOpaque_55 : decode cX3_findOpaque 55 = .ok (.iastore, 1) := by decide +kernel
theorem dX3_findOpaque_56 : decode cX3_findOpaque 56 = .ok (.iinc 4 1, 3) := by decide +kernel
theorem dX3_findOpaque_59 : decode cX3_findOpaque 59 = .ok (.goto (-42), 3) := by decide +kernel
theorem dX3_findOpaque_62 : decode cX3_findOpaque 62 = .ok (.aload_n 1, 1) := by decide +kernel
theorem dX3_findOpaque_63 : decode cX3_findOpaque 63 = .ok (.getfield 70, 3) := by decide +kernel
theorem dX3_findOpaque_66 : decode cX3_findOpaque 66 = .ok (.iconst 5, 1) := by decide +kernel
theorem dX3_findOpaque_67 : decode cX3_findOpaque 67 = .ok (.iaload, 1) := by decide +kernel
theorem dX3_findOpaque_68 : decode cX3_findOpaque 68 = .ok (.iconst 1, 1) := by decide +kernel
theorem dX3_findOpaque_69 : decode cX3_findOpaque 69 = .ok (.if_icmp .ne 7, 3) := by decide +kernel
theorem dX3_findOpaque_72 : decode cX3_findOpaque 72 = .ok (.aload_n 0, 1) := by decide +kernel
theorem dX3_findOpaque_73 : decode cX3_findOpaque 73 = .ok (.invokevirtual 80, 3) := by decide +kernel
theorem dX3_findOpaque_76 : decode cX3_findOpaque 76 = .ok (.return_, 1) := by decide +kernel
theorem dX3_rawOpaque_0 : decode cX3_rawOpaque 0 = .ok (.iload_n 0, 1) := by decide +kernel
theorem dX3_rawOpaque_1 : decode cX3_rawOpaque 1 = .ok (.iload_n 1, 1) := by decide +kernel
theorem dX3_rawOpaque_2 : decode cX3_rawOpaque 2 = .ok (.if_icmp .gt 5, 3) := by decide +kernel
theorem dX3_rawOpaque_5 : decode cX3_rawOpaque 5 = .ok (.iconst 0, 1) := by decide +kernel
theorem dX3_rawOpaque_6 : decode cX3_rawOpaque 6 = .ok (.ireturn, 1) := by decide +kernel
theorem dX3_rawOpaque_7 : decode cX3_rawOpaque 7 = .ok (.iload_n 0, 1) := by decide +kernel
theorem dX3_rawOpaque_8 : decode cX3_rawOpaque 8 = .ok (.iload_n 2, 1) := by decide +kernel
theorem dX3_rawOpaque_9 : decode cX3_rawOpaque 9 = .ok (.if_icmp .lt 6, 3) := by decide +kernel
theorem dX3_rawOpaque_12 : decode cX3_rawOpaque 12 = .ok (.bipush 16, 2) := by decide +kernel
theorem dX3_rawOpaque_14 : decode cX3_rawOpaque 14 = .ok (.ireturn, 1) := by decide +kernel
theorem dX3_rawOpaque_15 : decode cX3_rawOpaque 15 = .ok (.bipush 16, 2) := by decide +kernel
theorem dX3_rawOpaque_17 : decode cX3_rawOpaque 17 = .ok (.iload_n 0, 1) := by decide +kernel
theorem dX3_rawOpaque_18 : decode cX3_rawOpaque 18 = .ok (.iload_n 1, 1) := by decide +kernel
theorem dX3_rawOpaque_19 : decode cX3_rawOpaque 19 = .ok (.isub, 1) := by decide +kernel
theorem dX3_rawOpaque_20 : decode cX3_rawOpaque 20 = .ok (.imul, 1) := by decide +kernel
theorem dX3_rawOpaque_21 : decode cX3_rawOpaque 21 = .ok (.iload_n 2, 1) := by decide +kernel
theorem dX3_rawOpaque_22 : decode cX3_rawOpaque 22 = .ok (.iload_n 1, 1) := by decide +kernel
theorem dX3_rawOpaque_23 : decode cX3_rawOpaque 23 = .ok (.isub, 1) := by decide +kernel
theorem dX3_rawOpaque_24 : decode cX3_rawOpaque 24 = .ok (.idiv, 1) := by decide +kernel
theorem dX3_rawOpaque_25 : decode cX3_rawOpaque 25 = .ok (.ireturn, 1) := by decide +kernel
set_option maxRecDepth 20000 in
theorem ggX3_closeHoles_X3_reachFromEdge : GoodIn wsX3_closeHoles wsX3_reachFromEdge := goodIn_r _ [7, 8, 1, 9, 10, 11, 12, 13, 14, 15, 6, 16, 17, 18, 19, 20, 21, 22, 23, 24, 25, 26, 27, 28, 29, 30, 31] (by decide +kernel) (by decide +kernel)
set_option maxRecDepth 20000 in
theorem gX3_closeHoles_X3_reachFromEdge : GoodIn wsX3_closeHoles (wsV RX3 83 RX3 yX3_reachFromEdge wsX3_reachFromEdge) := goodIn_app (goodIn_of _ (by decide +kernel)) ggX3_closeHoles_X3_reachFromEdge
theorem dX3_closeHoles_0 : decode cX3_closeHoles 0 = .ok (.aload_n 0, 1) := by decide +kernel
theorem dX3_closeHoles_1 : decode cX3_closeHoles 1 = .ok (.invokevirtual 83, 3) := by decide +kernel
theorem dX3_closeHoles_4 : decode cX3_closeHoles 4 = .ok (.iconst 0, 1) := by decide +kernel
theorem dX3_closeHoles_5 : decode cX3_closeHoles 5 = .ok (.istore_n 1, 1) := by decide +kernel
theorem dX3_closeHoles_6 : decode cX3_closeHoles 6 = .ok (.iload_n 1, 1) := by decide +kernel
theorem dX3_closeHoles_7 : decode cX3_closeHoles 7 = .ok (.bipush 48, 2) := by decide +kernel
theorem dX3_closeHoles_9 : decode cX3_closeHoles 9 = .ok (.if_icmp .ge 26, 3) := by decide +kernel
theorem dX3_closeHoles_12 : decode cX3_closeHoles 12 = .ok (.aload_n 0, 1) := by decide +kernel
theorem dX3_closeHoles_13 : decode cX3_closeHoles 13 = .ok (.getfield 33, 3) := by decide +kernel
theorem dX3_closeHoles_16 : decode cX3_closeHoles 16 = .ok (.iload_n 1, 1) := by decide +kernel
theorem dX3_closeHoles_17 : decode cX3_closeHoles 17 = .ok (.baload, 1) := by decide +kernel
theorem dX3_closeHoles_18 : decode cX3_closeHoles 18 = .ok (.ifCond .ne 11, 3) := by decide +kernel
theorem dX3_closeHoles_21 : decode cX3_closeHoles 21 = .ok (.aload_n 0, 1) := by decide +kernel
theorem dX3_closeHoles_22 : decode cX3_closeHoles 22 = .ok (.getfield 15, 3) := by decide +kernel
theorem dX3_closeHoles_25 : decode cX3_closeHoles 25 = .ok (.iload_n 1, 1) := by decide +kernel
theorem dX3_closeHoles_26 : decode cX3_closeHoles 26 = .ok (.bipush 16, 2) := by decide +kernel
theorem dX3_closeHoles_28 : decode cX3_closeHoles 28 = .ok (.iastore, 1) := by decide +kernel
theorem dX3_closeHoles_29 : decode cX3_closeHoles 29 = .ok (.iinc 1 1, 3) := by decide +kernel
theorem dX3_closeHoles_32 : decode cX3_closeHoles 32 = .ok (.goto (-26), 3) := by decide +kernel
theorem dX3_closeHoles_35 : decode cX3_closeHoles 35 = .ok (.return_, 1) := by decide +kernel
set_option maxRecDepth 20000 in
theorem ggX3_reachFromEdge_X4_isAtEdge : GoodIn wsX3_reachFromEdge wsX4_isAtEdge := goodIn_r _ [6] (by decide +kernel) (by decide +kernel)
set_option maxRecDepth 20000 in
theorem gX3_reachFromEdge_X4_isAtEdge_n86 : GoodIn wsX3_reachFromEdge (wsX4_isAtEdge) := ggX3_reachFromEdge_X4_isAtEdge
set_option maxRecDepth 20000 in
theorem ggX3_reachFromEdge_X3_reach : GoodIn wsX3_reachFromEdge wsX3_reach := goodIn_r _ [11, 12, 2, 1, 3, 13, 5, 14, 17, 18, 19, 20, 21, 22, 23, 24, 25, 26] (by decide +kernel) (by decide +kernel)
set_option maxRecDepth 20000 in
theorem gX3_reachFromEdge_X3_reach : GoodIn wsX3_reachFromEdge (wsV RX3 90 RX3 yX3_reach wsX3_reach) := goodIn_app (goodIn_of _ (by decide +kernel)) ggX3_reachFromEdge_X3_reach
set_option maxRecDepth 20000 in
theorem ggX3_reachFromEdge_X4_beside : GoodIn wsX3_reachFromEdge wsX4_beside := goodIn_r _ [16] (by decide +kernel) (by decide +kernel)
set_option maxRecDepth 20000 in
theorem gX3_reachFromEdge_X4_beside_n94 : GoodIn wsX3_reachFromEdge (wsX4_beside) := ggX3_reachFromEdge_X4_beside
theorem dX3_reachFromEdge_0 : decode cX3_reachFromEdge 0 = .ok (.aload_n 0, 1) := by decide +kernel
theorem dX3_reachFromEdge_1 : decode cX3_reachFromEdge 1 = .ok (.iconst 0, 1) := by decide +kernel
theorem dX3_reachFromEdge_2 : decode cX3_reachFromEdge 2 = .ok (.putfield 40, 3) := by decide +kernel
theorem dX3_reachFromEdge_5 : decode cX3_reachFromEdge 5 = .ok (.iconst 0, 1) := by decide +kernel
theorem dX3_reachFromEdge_6 : decode cX3_reachFromEdge 6 = .ok (.istore_n 1, 1) := by decide +kernel
theorem dX3_reachFromEdge_7 : decode cX3_reachFromEdge 7 = .ok (.iload_n 1, 1) := by decide +kernel
theorem dX3_reachFromEdge_8 : decode cX3_reachFromEdge 8 = .ok (.bipush 48, 2) := by decide +kernel
theorem dX3_reachFromEdge_10 : decode cX3_reachFromEdge 10 = .ok (.if_icmp .ge 16, 3) := by decide +kernel
theorem dX3_reachFromEdge_13 : decode cX3_reachFromEdge 13 = .ok (.aload_n 0, 1) := by decide +kernel
theorem dX3_reachFromEdge_14 : decode cX3_reachFromEdge 14 = .ok (.getfield 33, 3) := by decide +kernel
theorem dX3_reachFromEdge_17 : decode cX3_reachFromEdge 17 = .ok (.iload_n 1, 1) := by decide +kernel
theorem dX3_reachFromEdge_18 : decode cX3_reachFromEdge 18 = .ok (.iconst 0, 1) := by decide +kernel
theorem dX3_reachFromEdge_19 : decode cX3_reachFromEdge 19 = .ok (.bastore, 1) := by decide +kernel
theorem dX3_reachFromEdge_20 : decode cX3_reachFromEdge 20 = .ok (.iinc 1 1, 3) := by decide +kernel
theorem dX3_reachFromEdge_23 : decode cX3_reachFromEdge 23 = .ok (.goto (-16), 3) := by decide +kernel
theorem dX3_reachFromEdge_26 : decode cX3_reachFromEdge 26 = .ok (.iconst 0, 1) := by decide +kernel
theorem dX3_reachFromEdge_27 : decode cX3_reachFromEdge 27 = .ok (.istore_n 1, 1) := by decide +kernel
theorem dX3_reachFromEdge_28 : decode cX3_reachFromEdge 28 = .ok (.iload_n 1, 1) := by decide +kernel
theorem dX3_reachFromEdge_29 : decode cX3_reachFromEdge 29 = .ok (.bipush 48, 2) := by decide +kernel
theorem dX3_reachFromEdge_31 : decode cX3_reachFromEdge 31 = .ok (.if_icmp .ge 21, 3) := by decide +kernel
theorem dX3_reachFromEdge_34 : decode cX3_reachFromEdge 34 = .ok (.iload_n 1, 1) := by decide +kernel
theorem dX3_reachFromEdge_35 : decode cX3_reachFromEdge 35 = .ok (.invokestatic 86, 3) := by decide +kernel
theorem dX3_reachFromEdge_38 : decode cX3_reachFromEdge 38 = .ok (.ifCond .eq 8, 3) := by decide +kernel
theorem dX3_reachFromEdge_41 : decode cX3_reachFromEdge 41 = .ok (.aload_n 0, 1) := by decide +kernel
theorem dX3_reachFromEdge_42 : decode cX3_reachFromEdge 42 = .ok (.iload_n 1, 1) := by decide +kernel
theorem dX3_reachFromEdge_43 : decode cX3_reachFromEdge 43 = .ok (.invokevirtual 90, 3) := by decide +kernel
theorem dX3_reachFromEdge_46 : decode cX3_reachFromEdge 46 = .ok (.iinc 1 1, 3) := by decide +kernel
theorem dX3_reachFromEdge_49 : decode cX3_reachFromEdge 49 = .ok (.goto (-21), 3) := by decide +kernel
theorem dX3_reachFromEdge_52 : decode cX3_reachFromEdge 52 = .ok (.iconst 0, 1) := by decide +kernel
theorem dX3_reachFromEdge_53 : decode cX3_reachFromEdge 53 = .ok (.istore_n 1, 1) := by decide +kernel
theorem dX3_reachFromEdge_54 : decode cX3_reachFromEdge 54 = .ok (.iload_n 1, 1) := by decide +kernel
theorem dX3_reachFromEdge_55 : decode cX3_reachFromEdge 55 = .ok (.bipush 48, 2) := by decide +kernel
theorem dX3_reachFromEdge_57 : decode cX3_reachFromEdge 57 = .ok (.if_icmp .ge 44, 3) := by decide +kernel
theorem dX3_reachFromEdge_60 : decode cX3_reachFromEdge 60 = .ok (.iload_n 1, 1) := by decide +kernel
theorem dX3_reachFromEdge_61 : decode cX3_reachFromEdge 61 = .ok (.aload_n 0, 1) := by decide +kernel
theorem dX3_reachFromEdge_62 : decode cX3_reachFromEdge 62 = .ok (.getfield 40, 3) := by decide +kernel
theorem dX3_reachFromEdge_65 : decode cX3_reachFromEdge 65 = .ok (.if_icmp .ge 36, 3) := by decide +kernel
theorem dX3_reachFromEdge_68 : decode cX3_reachFromEdge 68 = .ok (.iconst 0, 1) := by decide +kernel
theorem dX3_reachFromEdge_69 : decode cX3_reachFromEdge 69 = .ok (.istore_n 2, 1) := by decide +kernel
theorem dX3_reachFromEdge_70 : decode cX3_reachFromEdge 70 = .ok (.iload_n 2, 1) := by decide +kernel
theorem dX3_reachFromEdge_71 : decode cX3_reachFromEdge 71 = .ok (.iconst 4, 1) := by decide +kernel
theorem dX3_reachFromEdge_72 : decode cX3_reachFromEdge 72 = .ok (.if_icmp .ge 23, 3) := by decide +kernel
theorem dX3_reachFromEdge_75 : decode cX3_reachFromEdge 75 = .ok (.aload_n 0, 1) := by decide +kernel
theorem dX3_reachFromEdge_76 : decode cX3_reachFromEdge 76 = .ok (.aload_n 0, 1) := by decide +kernel
theorem dX3_reachFromEdge_77 : decode cX3_reachFromEdge 77 = .ok (.getfield 37, 3) := by decide +kernel
theorem dX3_reachFromEdge_80 : decode cX3_reachFromEdge 80 = .ok (.iload_n 1, 1) := by decide +kernel
theorem dX3_reachFromEdge_81 : decode cX3_reachFromEdge 81 = .ok (.iaload, 1) := by decide +kernel
theorem dX3_reachFromEdge_82 : decode cX3_reachFromEdge 82 = .ok (.iload_n 2, 1) := by decide +kernel
theorem dX3_reachFromEdge_83 : decode cX3_reachFromEdge 83 = .ok (.invokestatic 94, 3) := by decide +kernel
theorem dX3_reachFromEdge_86 : decode cX3_reachFromEdge 86 = .ok (.invokevirtual 90, 3) := by decide +kernel
theorem dX3_reachFromEdge_89 : decode cX3_reachFromEdge 89 = .ok (.iinc 2 1, 3) := by decide +kernel
theorem dX3_reachFromEdge_92 : decode cX3_reachFromEdge 92 = .ok (.goto (-22), 3) := by decide +kernel
theorem dX3_reachFromEdge_95 : decode cX3_reachFromEdge 95 = .ok (.iinc 1 1, 3) := by decide +kernel
theorem dX3_reachFromEdge_98 : decode cX3_reachFromEdge 98 = .ok (.goto (-44), 3) := by decide +kernel
theorem dX3_reachFromEdge_101 : decode cX3_reachFromEdge 101 = .ok (.return_, 1) := by decide +kernel
set_option maxRecDepth 20000 in
theorem ggX3_reach_X4_isPixel : GoodIn wsX3_reach wsX4_isPixel := goodIn_r _ [7] (by decide +kernel) (by decide +kernel)
set_option maxRecDepth 20000 in
theorem gX3_reach_X4_isPixel_n97 : GoodIn wsX3_reach (wsX4_isPixel) := ggX3_reach_X4_isPixel
theorem dX3_reach_0 : decode cX3_reach 0 = .ok (.iload_n 1, 1) := by decide +kernel
theorem dX3_reach_1 : decode cX3_reach 1 = .ok (.invokestatic 97, 3) := by decide +kernel
theorem dX3_reach_4 : decode cX3_reach 4 = .ok (.ifCond .eq 59, 3) := by decide +kernel
theorem dX3_reach_7 : decode cX3_reach 7 = .ok (.aload_n 0, 1) := by decide +kernel
theorem dX3_reach_8 : decode cX3_reach 8 = .ok (.getfield 9, 3) := by decide +kernel
theorem dX3_reach_11 : decode cX3_reach 11 = .ok (.iload_n 1, 1) := by decide +kernel
theorem dX3_reach_12 : decode cX3_reach 12 = .ok (.iaload, 1) := by decide +kernel
theorem dX3_reach_13 : decode cX3_reach 13 = .ok (.bipush 16, 2) := by decide +kernel
theorem dX3_reach_15 : decode cX3_reach 15 = .ok (.if_icmp .ge 48, 3) := by decide +kernel
theorem dX3_reach_18 : decode cX3_reach 18 = .ok (.aload_n 0, 1) := by decide +kernel
theorem dX3_reach_19 : decode cX3_reach 19 = .ok (.getfield 33, 3) := by decide +kernel
theorem dX3_reach_22 : decode cX3_reach 22 = .ok (.iload_n 1, 1) := by decide +kernel
theorem dX3_reach_23 : decode cX3_reach 23 = .ok (.baload, 1) := by decide +kernel
theorem dX3_reach_24 : decode cX3_reach 24 = .ok (.ifCond .ne 39, 3) := by decide +kernel
theorem dX3_reach_27 : decode cX3_reach 27 = .ok (.aload_n 0, 1) := by decide +kernel
theorem dX3_reach_28 : decode cX3_reach 28 = .ok (.getfield 40, 3) := by decide +kernel
theorem dX3_reach_31 : decode cX3_reach 31 = .ok (.bipush 48, 2) := by decide +kernel
theorem dX3_reach_33 : decode cX3_reach 33 = .ok (.if_icmp .ge 30, 3) := by decide +kernel
theorem dX3_reach_36 : decode cX3_reach 36 = .ok (.aload_n 0, 1) := by decide +kernel
theorem dX3_reach_37 : decode cX3_reach 37 = .ok (.getfield 33, 3) := by decide +kernel
theorem dX3_reach_40 : decode cX3_reach 40 = .ok (.iload_n 1, 1) := by decide +kernel
theorem dX3_reach_41 : decode cX3_reach 41 = .ok (.iconst 1, 1) := by decide +kernel
theorem dX3_reach_42 : decode cX3_reach 42 = .ok (.bastore, 1) := by decide +kernel
theorem dX3_reach_43 : decode cX3_reach 43 = .ok (.aload_n 0, 1) := by decide +kernel
theorem dX3_reach_44 : decode cX3_reach 44 = .ok (.getfield 37, 3) := by decide +kernel
theorem dX3_reach_47 : decode cX3_reach 47 = .ok (.aload_n 0, 1) := by decide +kernel
theorem dX3_reach_48 : decode cX3_reach 48 = .ok (.getfield 40, 3) := by decide +kernel
theorem dX3_reach_51 : decode cX3_reach 51 = .ok (.iload_n 1, 1) := by decide +kernel
theorem dX3_reach_52 : decode cX3_reach 52 = .ok (.iastore, 1) := by decide +kernel
theorem dX3_reach_53 : decode cX3_reach 53 = .ok (.aload_n 0, 1) := by decide +kernel
theorem dX3_reach_54 : decode cX3_reach 54 = .ok (.dup, 1) := by decide +kernel
theorem dX3_reach_55 : decode cX3_reach 55 = .ok (.getfield 40, 3) := by decide +kernel
theorem dX3_reach_58 : decode cX3_reach 58 = .ok (.iconst 1, 1) := by decide +kernel
theorem dX3_reach_59 : decode cX3_reach 59 = .ok (.iadd, 1) := by decide +kernel
theorem dX3_reach_60 : decode cX3_reach 60 = .ok (.putfield 40, 3) := by decide +kernel
theorem dX3_reach_63 : decode cX3_reach 63 = .ok (.return_, 1) := by decide +kernel
set_option maxRecDepth 20000 in
theorem ggX3_findKinds_X3_unmarkedKind : GoodIn wsX3_findKinds wsX3_unmarkedKind := goodIn_r _ [7, 8, 9, 10, 11, 12, 13, 14, 6, 15, 16, 17, 18, 19, 20, 21, 22, 23, 24, 25, 26, 27] (by decide +kernel) (by decide +kernel)
set_option maxRecDepth 20000 in
theorem gX3_findKinds_X3_unmarkedKind : GoodIn wsX3_findKinds (wsV RX3 100 RX3 yX3_unmarkedKind wsX3_unmarkedKind) := goodIn_app (goodIn_of _ (by decide +kernel)) ggX3_findKinds_X3_unmarkedKind
theorem dX3_findKinds_0 : decode cX3_findKinds 0 = .ok (.iconst 0, 1) := by decide +kernel
theorem dX3_findKinds_1 : decode cX3_findKinds 1 = .ok (.istore_n 2, 1) := by decide +kernel
theorem dX3_findKinds_2 : decode cX3_findKinds 2 = .ok (.iload_n 2, 1) := by decide +kernel
theorem dX3_findKinds_3 : decode cX3_findKinds 3 = .ok (.bipush 48, 2) := by decide +kernel
theorem dX3_findKinds_5 : decode cX3_findKinds 5 = .ok (.if_icmp .ge 33, 3) := by decide +kernel
theorem dX3_findKinds_8 : decode cX3_findKinds 8 = .ok (.aload_n 0, 1) := by decide +kernel
theorem dX3_findKinds_9 : decode cX3_findKinds 9 = .ok (.getfield 18, 3) := by decide +kernel
theorem dX3_findKinds_12 : decode cX3_findKinds 12 = .ok (.iload_n 2, 1) := by decide +kernel
theorem dX3_findKinds_13 : decode cX3_findKinds 13 = .ok (.aload_n 1, 1) := by decide +kernel
theorem dX3_findKinds_14 : decode cX3_findKinds 14 = .ok (.getfield 54, 3) := by decide +kernel
theorem dX3_findKinds_17 : decode cX3_findKinds 17 = .ok (.iload_n 2, 1) := by decide +kernel
theorem dX3_findKinds_18 : decode cX3_findKinds 18 = .ok (.baload, 1) := by decide +kernel
theorem dX3_findKinds_19 : decode cX3_findKinds 19 = .ok (.ifCond .eq 7, 3) := by decide +kernel
theorem dX3_findKinds_22 : decode cX3_findKinds 22 = .ok (.iconst 4, 1) := by decide +kernel
theorem dX3_findKinds_23 : decode cX3_findKinds 23 = .ok (.goto 8, 3) := by decide +kernel
theorem dX3_findKinds_26 : decode cX3_findKinds 26 = .ok (.aload_n 0, 1) := by decide +kernel
theorem dX3_findKinds_27 : decode cX3_findKinds 27 = .ok (.iload_n 2, 1) := by decide +kernel
theorem dX3_findKinds_28 : decode cX3_findKinds 28 = .ok (.invokevirtual 100, 3) := by decide +kernel
theorem dX3_findKinds_31 : decode cX3_findKinds 31 = .ok (.iastore, 1) := by decide +kernel
theorem dX3_findKinds_32 : decode cX3_findKinds 32 = .ok (.iinc 2 1, 3) := by decide +kernel
theorem dX3_findKinds_35 : decode cX3_findKinds 35 = .ok (.goto (-33), 3) := by decide +kernel
theorem dX3_findKinds_38 : decode cX3_findKinds 38 = .ok (.return_, 1) := by decide +kernel
set_option maxRecDepth 20000 in
theorem ggX3_unmarkedKind_X4_isPixel : GoodIn wsX3_unmarkedKind wsX4_isPixel := goodIn_r _ [4] (by decide +kernel) (by decide +kernel)
set_option maxRecDepth 20000 in
theorem gX3_unmarkedKind_X4_isPixel_n97 : GoodIn wsX3_unmarkedKind (wsX4_isPixel) := ggX3_unmarkedKind_X4_isPixel
set_option maxRecDepth 20000 in
theorem ggX3_unmarkedKind_X3_isOneBeside : GoodIn wsX3_unmarkedKind wsX3_isOneBeside := goodIn_r _ [9, 1, 10, 3, 11, 2, 4, 12, 13, 14, 15, 16, 17, 18, 19, 20, 21] (by decide +kernel) (by decide +kernel)
set_option maxRecDepth 20000 in
theorem gX3_unmarkedKind_X3_isOneBeside : GoodIn wsX3_unmarkedKind (wsV RX3 103 RX3 yX3_isOneBeside wsX3_isOneBeside) := goodIn_app (goodIn_of _ (by decide +kernel)) ggX3_unmarkedKind_X3_isOneBeside
theorem dX3_unmarkedKind_0 : decode cX3_unmarkedKind 0 = .ok (.iload_n 1, 1) := by decide +kernel
theorem dX3_unmarkedKind_1 : decode cX3_unmarkedKind 1 = .ok (.invokestatic 97, 3) := by decide +kernel
theorem dX3_unmarkedKind_4 : decode cX3_unmarkedKind 4 = .ok (.ifCond .ne 5, 3) := by decide +kernel
theorem dX3_unmarkedKind_7 : decode cX3_unmarkedKind 7 = .ok (.iconst (-1), 1) := by decide +kernel
theorem dX3_unmarkedKind_8 : decode cX3_unmarkedKind 8 = .ok (.ireturn, 1) := by decide +kernel
theorem dX3_unmarkedKind_9 : decode cX3_unmarkedKind 9 = .ok (.aload_n 0, 1) := by decide +kernel
theorem dX3_unmarkedKind_10 : decode cX3_unmarkedKind 10 = .ok (.getfield 15, 3) := by decide +kernel
theorem dX3_unmarkedKind_13 : decode cX3_unmarkedKind 13 = .ok (.iload_n 1, 1) := by decide +kernel
theorem dX3_unmarkedKind_14 : decode cX3_unmarkedKind 14 = .ok (.iaload, 1) := by decide +kernel
theorem dX3_unmarkedKind_15 : decode cX3_unmarkedKind 15 = .ok (.ifCond .ne 5, 3) := by decide +kernel
theorem dX3_unmarkedKind_18 : decode cX3_unmarkedKind 18 = .ok (.iconst 0, 1) := by decide +kernel
theorem dX3_unmarkedKind_19 : decode cX3_unmarkedKind 19 = .ok (.ireturn, 1) := by decide +kernel
theorem dX3_unmarkedKind_20 : decode cX3_unmarkedKind 20 = .ok (.aload_n 0, 1) := by decide +kernel
theorem dX3_unmarkedKind_21 : decode cX3_unmarkedKind 21 = .ok (.getfield 15, 3) := by decide +kernel
theorem dX3_unmarkedKind_24 : decode cX3_unmarkedKind 24 = .ok (.iload_n 1, 1) := by decide +kernel
theorem dX3_unmarkedKind_25 : decode cX3_unmarkedKind 25 = .ok (.iaload, 1) := by decide +kernel
theorem dX3_unmarkedKind_26 : decode cX3_unmarkedKind 26 = .ok (.bipush 16, 2) := by decide +kernel
theorem dX3_unmarkedKind_28 : decode cX3_unmarkedKind 28 = .ok (.if_icmp .ne 5, 3) := by decide +kernel
theorem dX3_unmarkedKind_31 : decode cX3_unmarkedKind 31 = .ok (.iconst 3, 1) := by decide +kernel
theorem dX3_unmarkedKind_32 : decode cX3_unmarkedKind 32 = .ok (.ireturn, 1) := by decide +kernel
theorem dX3_unmarkedKind_33 : decode cX3_unmarkedKind 33 = .ok (.aload_n 0, 1) := by decide +kernel
theorem dX3_unmarkedKind_34 : decode cX3_unmarkedKind 34 = .ok (.iload_n 1, 1) := by decide +kernel
theorem dX3_unmarkedKind_35 : decode cX3_unmarkedKind 35 = .ok (.bipush 16, 2) := by decide +kernel
theorem dX3_unmarkedKind_37 : decode cX3_unmarkedKind 37 = .ok (.invokevirtual 103, 3) := by decide +kernel
theorem dX3_unmarkedKind_40 : decode cX3_unmarkedKind 40 = .ok (.ifCond .eq 16, 3) := by decide +kernel
theorem dX3_unmarkedKind_43 : decode cX3_unmarkedKind 43 = .ok (.aload_n 0, 1) := by decide +kernel
theorem dX3_unmarkedKind_44 : decode cX3_unmarkedKind 44 = .ok (.iload_n 1, 1) := by decide +kernel
theorem dX3_unmarkedKind_45 : decode cX3_unmarkedKind 45 = .ok (.iconst 0, 1) := by decide +kernel
theorem dX3_unmarkedKind_46 : decode cX3_unmarkedKind 46 = .ok (.invokevirtual 103, 3) := by decide +kernel
theorem dX3_unmarkedKind_49 : decode cX3_unmarkedKind 49 = .ok (.ifCond .eq 7, 3) := by decide +kernel
theorem dX3_unmarkedKind_52 : decode cX3_unmarkedKind 52 = .ok (.iconst 2, 1) := by decide +kernel
theorem dX3_unmarkedKind_53 : decode cX3_unmarkedKind 53 = .ok (.goto 4, 3) := by decide +kernel
theorem dX3_unmarkedKind_56 : decode cX3_unmarkedKind 56 = .ok (.iconst 1, 1) := by decide +kernel
theorem dX3_unmarkedKind_57 : decode cX3_unmarkedKind 57 = .ok (.ireturn, 1) := by decide +kernel
set_option maxRecDepth 20000 in
theorem ggX3_isOneBeside_X4_beside : GoodIn wsX3_isOneBeside wsX4_beside := goodIn_r _ [4] (by decide +kernel) (by decide +kernel)
set_option maxRecDepth 20000 in
theorem gX3_isOneBeside_X4_beside_n94 : GoodIn wsX3_isOneBeside (wsX4_beside) := ggX3_isOneBeside_X4_beside
set_option maxRecDepth 20000 in
theorem ggX3_isOneBeside_X4_isPixel : GoodIn wsX3_isOneBeside wsX4_isPixel := goodIn_r _ [6] (by decide +kernel) (by decide +kernel)
set_option maxRecDepth 20000 in
theorem gX3_isOneBeside_X4_isPixel_n97 : GoodIn wsX3_isOneBeside (wsX4_isPixel) := ggX3_isOneBeside_X4_isPixel
theorem dX3_isOneBeside_0 : decode cX3_isOneBeside 0 = .ok (.iconst 0, 1) := by decide +kernel
theorem dX3_isOneBeside_1 : decode cX3_isOneBeside 1 = .ok (.istore_n 3, 1) := by decide +kernel
theorem dX3_isOneBeside_2 : decode cX3_isOneBeside 2 = .ok (.iload_n 3, 1) := by decide +kernel
theorem dX3_isOneBeside_3 : decode cX3_isOneBeside 3 = .ok (.iconst 4, 1) := by decide +kernel
theorem dX3_isOneBeside_4 : decode cX3_isOneBeside 4 = .ok (.if_icmp .ge 37, 3) := by decide +kernel
theorem dX3_isOneBeside_7 : decode cX3_isOneBeside 7 = .ok (.iload_n 1, 1) := by decide +kernel
theorem dX3_isOneBeside_8 : decode cX3_isOneBeside 8 = .ok (.iload_n 3, 1) := by decide +kernel
theorem dX3_isOneBeside_9 : decode cX3_isOneBeside 9 = .ok (.invokestatic 94, 3) := by decide +kernel
theorem dX3_isOneBeside_12 : decode cX3_isOneBeside 12 = .ok (.istore 4, 2) := by decide +kernel
theorem dX3_isOneBeside_14 : decode cX3_isOneBeside 14 = .ok (.iload 4, 2) := by decide +kernel
theorem dX3_isOneBeside_16 : decode cX3_isOneBeside 16 = .ok (.invokestatic 97, 3) := by decide +kernel
theorem dX3_isOneBeside_19 : decode cX3_isOneBeside 19 = .ok (.ifCond .eq 16, 3) := by decide +kernel
theorem dX3_isOneBeside_22 : decode cX3_isOneBeside 22 = .ok (.aload_n 0, 1) := by decide +kernel
theorem dX3_isOneBeside_23 : decode cX3_isOneBeside 23 = .ok (.getfield 15, 3) := by decide +kernel
theorem dX3_isOneBeside_26 : decode cX3_isOneBeside 26 = .ok (.iload 4, 2) := by decide +kernel
theorem dX3_isOneBeside_28 : decode cX3_isOneBeside 28 = .ok (.iaload, 1) := by decide +kernel
theorem dX3_isOneBeside_29 : decode cX3_isOneBeside 29 = .ok (.iload_n 2, 1) := by decide +kernel
theorem dX3_isOneBeside_30 : decode cX3_isOneBeside 30 = .ok (.if_icmp .ne 5, 3) := by decide +kernel
theorem dX3_isOneBeside_33 : decode cX3_isOneBeside 33 = .ok (.iconst 1, 1) := by decide +kernel
theorem dX3_isOneBeside_34 : decode cX3_isOneBeside 34 = .ok (.ireturn, 1) := by decide +kernel
theorem dX3_isOneBeside_35 : decode cX3_isOneBeside 35 = .ok (.iinc 3 1, 3) := by decide +kernel
theorem dX3_isOneBeside_38 : decode cX3_isOneBeside 38 = .ok (.goto (-36), 3) := by decide +kernel
theorem dX3_isOneBeside_41 : decode cX3_isOneBeside 41 = .ok (.iconst 0, 1) := by decide +kernel
theorem dX3_isOneBeside_42 : decode cX3_isOneBeside 42 = .ok (.ireturn, 1) := by decide +kernel
set_option maxRecDepth 20000 in
theorem ggX3_compose_X4_mainPart : GoodIn wsX3_compose wsX4_mainPart := goodIn_r _ [12, 13, 14, 11, 15, 16, 17, 18] (by decide +kernel) (by decide +kernel)
set_option maxRecDepth 20000 in
theorem gX3_compose_X4_mainPart_n62 : GoodIn wsX3_compose (wsX4_mainPart) := ggX3_compose_X4_mainPart
set_option maxRecDepth 20000 in
theorem ggX3_compose_X4_spillIn : GoodIn wsX3_compose wsX4_spillIn := goodIn_r _ [20, 21, 22, 23, 24, 13, 14, 11, 15, 16, 17, 18] (by decide +kernel) (by decide +kernel)
set_option maxRecDepth 20000 in
theorem gX3_compose_X4_spillIn_n66 : GoodIn wsX3_compose (wsX4_spillIn) := ggX3_compose_X4_spillIn
set_option maxRecDepth 20000 in
theorem ggX3_compose_X3_share : GoodIn wsX3_compose wsX3_share := goodIn_r _ [28, 29, 32, 33, 34, 35, 36] (by decide +kernel) (by decide +kernel)
set_option maxRecDepth 20000 in
theorem gX3_compose_X3_share : GoodIn wsX3_compose (va_wsS RX3 110 yX3_share wsX3_share) := goodIn_app (goodIn_of _ (by decide +kernel)) ggX3_compose_X3_share
set_option maxRecDepth 20000 in
theorem ggX3_compose_X4_partShift : GoodIn wsX3_compose wsX4_partShift := goodIn_r _ [18] (by decide +kernel) (by decide +kernel)
set_option maxRecDepth 20000 in
theorem gX3_compose_X4_partShift_n114 : GoodIn wsX3_compose (wsX4_partShift) := ggX3_compose_X4_partShift
set_option maxRecDepth 20000 in
theorem ggX3_compose_X4_composedColour : GoodIn wsX3_compose wsX4_composedColour := goodIn_r _ [31, 13, 14, 11, 15, 16, 17, 18] (by decide +kernel) (by decide +kernel)
set_option maxRecDepth 20000 in
theorem gX3_compose_X4_composedColour_n120 : GoodIn wsX3_compose (wsX4_composedColour) := ggX3_compose_X4_composedColour
theorem dX3_compose_0 : decode cX3_compose 0 = .ok (.aload_n 1, 1) := by decide +kernel
theorem dX3_compose_1 : decode cX3_compose 1 = .ok (.getfield 59, 3) := by decide +kernel
theorem dX3_compose_4 : decode cX3_compose 4 = .ok (.invokestatic 62, 3) := by decide +kernel
theorem dX3_compose_7 : decode cX3_compose 7 = .ok (.istore_n 2, 1) := by decide +kernel
theorem dX3_compose_8 : decode cX3_compose 8 = .ok (.iconst 0, 1) := by decide +kernel
theorem dX3_compose_9 : decode cX3_compose 9 = .ok (.istore_n 3, 1) := by decide +kernel
theorem dX3_compose_10 : decode cX3_compose 10 = .ok (.iload_n 3, 1) := by decide +kernel
theorem dX3_compose_11 : decode cX3_compose 11 = .ok (.bipush 48, 2) := by decide +kernel
theorem dX3_compose_13 : decode cX3_compose 13 = .ok (.if_icmp .ge 102, 3) := by decide +kernel
theorem dX3_compose_16 : decode cX3_compose 16 = .ok (.aload_n 0, 1) := by decide +kernel
theorem dX3_compose_17 : decode cX3_compose 17 = .ok (.getfield 21, 3) := by decide +kernel
theorem dX3_compose_20 : decode cX3_compose 20 = .ok (.iload_n 3, 1) := by decide +kernel
theorem dX3_compose_21 : decode cX3_compose 21 = .ok (.aload_n 1, 1) := by decide +kernel
theorem dX3_compose_22 : decode cX3_compose 22 = .ok (.getfield 107, 3) := by decide +kernel
theorem dX3_compose_25 : decode cX3_compose 25 = .ok (.iload_n 3, 1) := by decide +kernel
theorem dX3_compose_26 : decode cX3_compose 26 = .ok (.iaload, 1) := by decide +kernel
theorem dX3_compose_27 : decode cX3_compose 27 = .ok (.iload_n 2, 1) := by decide +kernel
theorem dX3_compose_28 : decode cX3_compose 28 = .ok (.invokestatic 66, 3) := by decide +kernel
theorem dX3_compose_31 : decode cX3_compose 31 = .ok (.iastore, 1) := by decide +kernel
theorem dX3_compose_32 : decode cX3_compose 32 = .ok (.aload_n 0, 1) := by decide +kernel
theorem dX3_compose_33 : decode cX3_compose 33 = .ok (.getfield 24, 3) := by decide +kernel
theorem dX3_compose_36 : decode cX3_compose 36 = .ok (.iload_n 3, 1) := by decide +kernel
theorem dX3_compose_37 : decode cX3_compose 37 = .ok (.aload_n 0, 1) := by decide +kernel
theorem dX3_compose_38 : decode cX3_compose 38 = .ok (.getfield 21, 3) := by decide +kernel
theorem dX3_compose_41 : decode cX3_compose 41 = .ok (.iload_n 3, 1) := by decide +kernel
theorem dX3_compose_42 : decode cX3_compose 42 = .ok (.iaload, 1) := by decide +kernel
theorem dX3_compose_43 : decode cX3_compose 43 = .ok (.aload_n 1, 1) := by decide +kernel
theorem dX3_compose_44 : decode cX3_compose 44 = .ok (.aload_n 0, 1) := by decide +kernel
theorem dX3_compose_45 : decode cX3_compose 45 = .ok (.getfield 18, 3) := by decide +kernel
theorem dX3_compose_48 : decode cX3_compose 48 = .ok (.iload_n 3, 1) := by decide +kernel
theorem dX3_compose_49 : decode cX3_compose 49 = .ok (.iaload, 1) := by decide +kernel
theorem dX3_compose_50 : decode cX3_compose 50 = .ok (.invokestatic 110, 3) := by decide +kernel
theorem dX3_compose_53 : decode cX3_compose 53 = .ok (.imul, 1) := by decide +kernel
theorem dX3_compose_54 : decode cX3_compose 54 = .ok (.bipush 16, 2) := by decide +kernel
theorem dX3_compose_56 : decode cX3_compose 56 = .ok (.idiv, 1) := by decide +kernel
theorem dX3_compose_57 : decode cX3_compose 57 = .ok (.iastore, 1) := by decide +kernel
theorem dX3_compose_58 : decode cX3_compose 58 = .ok (.aload_n 0, 1) := by decide +kernel
theorem dX3_compose_59 : decode cX3_compose 59 = .ok (.getfield 27, 3) := by decide +kernel
theorem dX3_compose_62 : decode cX3_compose 62 = .ok (.iload_n 3, 1) := by decide +kernel
theorem dX3_compose_63 : decode cX3_compose 63 = .ok (.aload_n 1, 1) := by decide +kernel
theorem dX3_compose_64 : decode cX3_compose 64 = .ok (.getfield 107, 3) := by decide +kernel
theorem dX3_compose_67 : decode cX3_compose 67 = .ok (.iload_n 3, 1) := by decide +kernel
theorem dX3_compose_68 : decode cX3_compose 68 = .ok (.iaload, 1) := by decide +kernel
theorem dX3_compose_69 : decode cX3_compose 69 = .ok (.aload_n 0, 1) := by decide +kernel
theorem dX3_compose_70 : decode cX3_compose 70 = .ok (.getfield 24, 3) := by decide +kernel
theorem dX3_compose_73 : decode cX3_compose 73 = .ok (.iload_n 3, 1) := by decide +kernel
theorem dX3_compose_74 : decode cX3_compose 74 = .ok (.iaload, 1) := by decide +kernel
theorem dX3_compose_75 : decode cX3_compose 75 = .ok (.iload_n 2, 1) := by decide +kernel
theorem dX3_compose_76 : decode cX3_compose 76 = .ok (.invokestatic 114, 3) := by decide +kernel
theorem dX3_compose_79 : decode cX3_compose 79 = .ok (.ishl, 1) := by decide +kernel
theorem dX3_compose_80 : decode cX3_compose 80 = .ok (.isub, 1) := by decide +kernel
theorem dX3_compose_81 : decode cX3_compose 81 = .ok (.iastore, 1) := by decide +kernel
theorem dX3_compose_82 : decode cX3_compose 82 = .ok (.aload_n 0, 1) := by decide +kernel
theorem dX3_compose_83 : decode cX3_compose 83 = .ok (.getfield 30, 3) := by decide +kernel
theorem dX3_compose_86 : decode cX3_compose 86 = .ok (.iload_n 3, 1) := by decide +kernel
theorem dX3_compose_87 : decode cX3_compose 87 = .ok (.aload_n 0, 1) := by decide +kernel
theorem dX3_compose_88 : decode cX3_compose 88 = .ok (.getfield 27, 3) := by decide +kernel
theorem dX3_compose_91 : decode cX3_compose 91 = .ok (.iload_n 3, 1) := by decide +kernel
theorem dX3_compose_92 : decode cX3_compose 92 = .ok (.iaload, 1) := by decide +kernel
theorem dX3_compose_93 : decode cX3_compose 93 = .ok (.aload_n 1, 1) := by decide +kernel
theorem dX3_compose_94 : decode cX3_compose 94 = .ok (.getfield 117, 3) := by decide +kernel
theorem dX3_compose_97 : decode cX3_compose 97 = .ok (.iload_n 3, 1) := by decide +kernel
theorem dX3_compose_98 : decode cX3_compose 98 = .ok (.iaload, 1) := by decide +kernel
theorem dX3_compose_99 : decode cX3_compose 99 = .ok (.aload_n 0, 1) := by decide +kernel
theorem dX3_compose_100 : decode cX3_compose 100 = .ok (.getfield 15, 3) := by decide +kernel
theorem dX3_compose_103 : decode cX3_compose 103 = .ok (.iload_n 3, 1) := by decide +kernel
theorem dX3_compose_104 : decode cX3_compose 104 = .ok (.iaload, 1) := by decide +kernel
theorem dX3_compose_105 : decode cX3_compose 105 = .ok (.invokestatic 120, 3) := by decide +kernel
theorem dX3_compose_108 : decode cX3_compose 108 = .ok (.iastore, 1) := by decide +kernel
theorem dX3_compose_109 : decode cX3_compose 109 = .ok (.iinc 3 1, 3) := by decide +kernel
theorem dX3_compose_112 : decode cX3_compose 112 = .ok (.goto (-102), 3) := by decide +kernel
theorem dX3_compose_115 : decode cX3_compose 115 = .ok (.return_, 1) := by decide +kernel
theorem dX3_share_0 : decode cX3_share 0 = .ok (.iload_n 1, 1) := by decide +kernel
theorem dX3_share_1 : decode cX3_share 1 = .ok (.tableswitch 52 1 4 #[31, 38, 31, 45], 31) := by decide +kernel
theorem dX3_share_32 : decode cX3_share 32 = .ok (.aload_n 0, 1) := by decide +kernel
theorem dX3_share_33 : decode cX3_share 33 = .ok (.getfield 70, 3) := by decide +kernel
theorem dX3_share_36 : decode cX3_share 36 = .ok (.iconst 2, 1) := by decide +kernel
theorem dX3_share_37 : decode cX3_share 37 = .ok (.iaload, 1) := by decide +kernel
theorem dX3_share_38 : decode cX3_share 38 = .ok (.ireturn, 1) := by decide +kernel
theorem dX3_share_39 : decode cX3_share 39 = .ok (.aload_n 0, 1) := by decide +kernel
theorem dX3_share_40 : decode cX3_share 40 = .ok (.getfield 70, 3) := by decide +kernel
theorem dX3_share_43 : decode cX3_share 43 = .ok (.iconst 3, 1) := by decide +kernel
theorem dX3_share_44 : decode cX3_share 44 = .ok (.iaload, 1) := by decide +kernel
theorem dX3_share_45 : decode cX3_share 45 = .ok (.ireturn, 1) := by decide +kernel
theorem dX3_share_46 : decode cX3_share 46 = .ok (.aload_n 0, 1) := by decide +kernel
theorem dX3_share_47 : decode cX3_share 47 = .ok (.getfield 70, 3) := by decide +kernel
theorem dX3_share_50 : decode cX3_share 50 = .ok (.iconst 4, 1) := by decide +kernel
theorem dX3_share_51 : decode cX3_share 51 = .ok (.iaload, 1) := by decide +kernel
theorem dX3_share_52 : decode cX3_share 52 = .ok (.ireturn, 1) := by decide +kernel
theorem dX3_share_53 : decode cX3_share 53 = .ok (.iconst 0, 1) := by decide +kernel
theorem dX3_share_54 : decode cX3_share 54 = .ok (.ireturn, 1) := by decide +kernel
set_option maxRecDepth 20000 in
theorem ggX4_init_X2_init : GoodIn wsX4_init wsX2_init := goodIn_r _ [25, 26, 2, 3, 27, 28, 29, 30, 31, 32, 33, 34, 35, 36, 37, 65, 66, 67, 68, 69] (by decide +kernel) (by decide +kernel)
set_option maxRecDepth 20000 in
theorem gX4_init_X2_init : GoodIn wsX4_init (wsX2_init) := ggX4_init_X2_init
set_option maxRecDepth 20000 in
theorem ggX4_init_X3_init : GoodIn wsX4_init wsX3_init := goodIn_r _ [39, 40, 2, 3, 27, 41, 42, 43, 44, 45, 46, 47, 31, 48, 49, 50, 77, 78, 79, 80, 81, 82, 83, 84, 85, 86] (by decide +kernel) (by decide +kernel)
set_option maxRecDepth 20000 in
theorem gX4_init_X3_init_n21 : GoodIn wsX4_init (wsX3_init) := ggX4_init_X3_init
set_option maxRecDepth 20000 in
theorem ggX4_init_X1_init : GoodIn wsX4_init wsX1_init := goodIn_r _ [52, 53, 2, 3, 27, 54, 55, 87, 88] (by decide +kernel) (by decide +kernel)
set_option maxRecDepth 20000 in
theorem gX4_init_X1_init_n31 : GoodIn wsX4_init (wsX1_init) := ggX4_init_X1_init
set_option maxRecDepth 20000 in
theorem ggX4_init_X0_init : GoodIn wsX4_init wsX0_init := goodIn_r _ [58, 59, 2, 3, 60, 61, 62, 63, 5, 6, 64, 24, 25, 26, 27, 28, 29, 30, 31, 32, 33, 34, 35, 36, 37, 89, 90, 91, 65, 66, 67, 68, 69] (by decide +kernel) (by decide +kernel)
set_option maxRecDepth 20000 in
theorem gX4_init_X0_init : GoodIn wsX4_init (wsX0_init) := ggX4_init_X0_init
theorem dX4_init_0 : decode cX4_init 0 = .ok (.aload_n 0, 1) := by decide +kernel
theorem dX4_init_1 : decode cX4_init 1 = .ok (.invokespecial 1, 3) := by decide +kernel
theorem dX4_init_4 : decode cX4_init 4 = .ok (.aload_n 0, 1) := by decide +kernel
theorem dX4_init_5 : decode cX4_init 5 = .ok (.new 7, 3) := by decide +kernel
theorem dX4_init_8 : decode cX4_init 8 = .ok (.dup, 1) := by decide +kernel
theorem dX4_init_9 : decode cX4_init 9 = .ok (.invokespecial 9, 3) := by decide +kernel
theorem dX4_init_12 : decode cX4_init 12 = .ok (.putfield 10, 3) := by decide +kernel
theorem dX4_init_15 : decode cX4_init 15 = .ok (.aload_n 0, 1) := by decide +kernel
theorem dX4_init_16 : decode cX4_init 16 = .ok (.new 7, 3) := by decide +kernel
theorem dX4_init_19 : decode cX4_init 19 = .ok (.dup, 1) := by decide +kernel
theorem dX4_init_20 : decode cX4_init 20 = .ok (.invokespecial 9, 3) := by decide +kernel
theorem dX4_init_23 : decode cX4_init 23 = .ok (.putfield 16, 3) := by decide +kernel
theorem dX4_init_26 : decode cX4_init 26 = .ok (.aload_n 0, 1) := by decide +kernel
theorem dX4_init_27 : decode cX4_init 27 = .ok (.new 19, 3) := by decide +kernel
theorem dX4_init_30 : decode cX4_init 30 = .ok (.dup, 1) := by decide +kernel
theorem dX4_init_31 : decode cX4_init 31 = .ok (.invokespecial 21, 3) := by decide +kernel
theorem dX4_init_34 : decode cX4_init 34 = .ok (.putfield 22, 3) := by decide +kernel
theorem dX4_init_37 : decode cX4_init 37 = .ok (.aload_n 0, 1) := by decide +kernel
theorem dX4_init_38 : decode cX4_init 38 = .ok (.new 19, 3) := by decide +kernel
theorem dX4_init_41 : decode cX4_init 41 = .ok (.dup, 1) := by decide +kernel
theorem dX4_init_42 : decode cX4_init 42 = .ok (.invokespecial 21, 3) := by decide +kernel
theorem dX4_init_45 : decode cX4_init 45 = .ok (.putfield 26, 3) := by decide +kernel
theorem dX4_init_48 : decode cX4_init 48 = .ok (.aload_n 0, 1) := by decide +kernel
theorem dX4_init_49 : decode cX4_init 49 = .ok (.new 29, 3) := by decide +kernel
theorem dX4_init_52 : decode cX4_init 52 = .ok (.dup, 1) := by decide +kernel
theorem dX4_init_53 : decode cX4_init 53 = .ok (.invokespecial 31, 3) := by decide +kernel
theorem dX4_init_56 : decode cX4_init 56 = .ok (.putfield 32, 3) := by decide +kernel
theorem dX4_init_59 : decode cX4_init 59 = .ok (.aload_n 0, 1) := by decide +kernel
theorem dX4_init_60 : decode cX4_init 60 = .ok (.new 36, 3) := by decide +kernel
theorem dX4_init_63 : decode cX4_init 63 = .ok (.dup, 1) := by decide +kernel
theorem dX4_init_64 : decode cX4_init 64 = .ok (.invokespecial 38, 3) := by decide +kernel
theorem dX4_init_67 : decode cX4_init 67 = .ok (.putfield 39, 3) := by decide +kernel
theorem dX4_init_70 : decode cX4_init 70 = .ok (.aload_n 0, 1) := by decide +kernel
theorem dX4_init_71 : decode cX4_init 71 = .ok (.iconst 2, 1) := by decide +kernel
theorem dX4_init_72 : decode cX4_init 72 = .ok (.anewarray 7, 3) := by decide +kernel
theorem dX4_init_75 : decode cX4_init 75 = .ok (.putfield 43, 3) := by decide +kernel
theorem dX4_init_78 : decode cX4_init 78 = .ok (.return_, 1) := by decide +kernel
set_option maxRecDepth 20000 in
theorem ggX4_set_X4_errorOfSetting : GoodIn wsX4_set wsX4_errorOfSetting := goodIn_r _ [7, 8, 2, 9, 10, 11, 6, 12, 43, 44, 45, 46, 47, 48, 49, 50, 51, 52, 53, 54] (by decide +kernel) (by decide +kernel)
set_option maxRecDepth 20000 in
theorem gX4_set_X4_errorOfSetting : GoodIn wsX4_set (wsV RX4 47 RX4 yX4_errorOfSetting wsX4_errorOfSetting) := goodIn_app (goodIn_of _ (by decide +kernel)) ggX4_set_X4_errorOfSetting
set_option maxRecDepth 20000 in
theorem ggX4_set_X0_remember : GoodIn wsX4_set wsX0_remember := goodIn_r _ [17, 18, 19, 20, 21, 22, 23, 24, 25, 26, 27, 28, 29, 30, 31, 32, 33, 34, 35, 36, 37, 38, 55, 56, 57, 50, 51, 52, 53, 54] (by decide +kernel) (by decide +kernel)
set_option maxRecDepth 20000 in
theorem gX4_set_X0_remember : GoodIn wsX4_set (wsV RX4 51 RX0 yX0_remember wsX0_remember) := goodIn_app (goodIn_of _ (by decide +kernel)) ggX4_set_X0_remember
set_option maxRecDepth 20000 in
theorem ggX4_set_X2_changeSetting : GoodIn wsX4_set wsX2_changeSetting := goodIn_r _ [42, 30, 11, 6, 12, 50, 51, 52, 53, 54] (by decide +kernel) (by decide +kernel)
set_option maxRecDepth 20000 in
theorem gX4_set_X2_changeSetting : GoodIn wsX4_set (wsV RX4 55 RX2 yX2_changeSetting wsX2_changeSetting) := goodIn_app (goodIn_of _ (by decide +kernel)) ggX4_set_X2_changeSetting
theorem dX4_set_0 : decode cX4_set 0 = .ok (.aload_n 0, 1) := by decide +kernel
theorem dX4_set_1 : decode cX4_set 1 = .ok (.iload_n 1, 1) := by decide +kernel
theorem dX4_set_2 : decode cX4_set 2 = .ok (.iload_n 2, 1) := by decide +kernel
theorem dX4_set_3 : decode cX4_set 3 = .ok (.invokevirtual 47, 3) := by decide +kernel
theorem dX4_set_6 : decode cX4_set 6 = .ok (.istore_n 3, 1) := by decide +kernel
theorem dX4_set_7 : decode cX4_set 7 = .ok (.iload_n 3, 1) := by decide +kernel
theorem dX4_set_8 : decode cX4_set 8 = .ok (.ifCond .eq 5, 3) := by decide +kernel
theorem dX4_set_11 : decode cX4_set 11 = .ok (.iload_n 3, 1) := by decide +kernel
theorem dX4_set_12 : decode cX4_set 12 = .ok (.ireturn, 1) := by decide +kernel
theorem dX4_set_13 : decode cX4_set 13 = .ok (.aload_n 0, 1) := by decide +kernel
theorem dX4_set_14 : decode cX4_set 14 = .ok (.getfield 39, 3) := by decide +kernel
theorem dX4_set_17 : decode cX4_set 17 = .ok (.aload_n 0, 1) := by decide +kernel
theorem dX4_set_18 : decode cX4_set 18 = .ok (.getfield 10, 3) := by decide +kernel
theorem dX4_set_21 : decode cX4_set 21 = .ok (.invokevirtual 51, 3) := by decide +kernel
theorem dX4_set_24 : decode cX4_set 24 = .ok (.aload_n 0, 1) := by decide +kernel
theorem dX4_set_25 : decode cX4_set 25 = .ok (.getfield 10, 3) := by decide +kernel
theorem dX4_set_28 : decode cX4_set 28 = .ok (.iload_n 1, 1) := by decide +kernel
theorem dX4_set_29 : decode cX4_set 29 = .ok (.iload_n 2, 1) := by decide +kernel
theorem dX4_set_30 : decode cX4_set 30 = .ok (.invokevirtual 55, 3) := by decide +kernel
theorem dX4_set_33 : decode cX4_set 33 = .ok (.ireturn, 1) := by decide +kernel
set_option maxRecDepth 20000 in
theorem ggX4_screen_X4_isColour : GoodIn wsX4_screen wsX4_isColour := goodIn_r _ [7] (by decide +kernel) (by decide +kernel)
set_option maxRecDepth 20000 in
theorem gX4_screen_X4_isColour : GoodIn wsX4_screen (va_wsS RX4 58 yX4_isColour wsX4_isColour) := goodIn_app (goodIn_of _ (by decide +kernel)) ggX4_screen_X4_isColour
set_option maxRecDepth 20000 in
theorem ggX4_screen_X0_remember : GoodIn wsX4_screen wsX0_remember := goodIn_r _ [12, 13, 14, 15, 16, 17, 18, 19, 20, 21, 22, 23, 24, 25, 26, 27, 28, 29, 30, 31, 32, 33, 46, 47, 48, 41, 42, 43, 44, 45] (by decide +kernel) (by decide +kernel)
set_option maxRecDepth 20000 in
theorem gX4_screen_X0_remember : GoodIn wsX4_screen (wsV RX4 51 RX0 yX0_remember wsX0_remember) := goodIn_app (goodIn_of _ (by decide +kernel)) ggX4_screen_X0_remember
theorem dX4_screen_0 : decode cX4_screen 0 = .ok (.iload_n 1, 1) := by decide +kernel
theorem dX4_screen_1 : decode cX4_screen 1 = .ok (.invokestatic 58, 3) := by decide +kernel
theorem dX4_screen_4 : decode cX4_screen 4 = .ok (.ifCond .ne 6, 3) := by decide +kernel
theorem dX4_screen_7 : decode cX4_screen 7 = .ok (.bipush (-2), 2) := by decide +kernel
theorem dX4_screen_9 : decode cX4_screen 9 = .ok (.ireturn, 1) := by decide +kernel
theorem dX4_screen_10 : decode cX4_screen 10 = .ok (.aload_n 0, 1) := by decide +kernel
theorem dX4_screen_11 : decode cX4_screen 11 = .ok (.getfield 39, 3) := by decide +kernel
theorem dX4_screen_14 : decode cX4_screen 14 = .ok (.aload_n 0, 1) := by decide +kernel
theorem dX4_screen_15 : decode cX4_screen 15 = .ok (.getfield 10, 3) := by decide +kernel
theorem dX4_screen_18 : decode cX4_screen 18 = .ok (.invokevirtual 51, 3) := by decide +kernel
theorem dX4_screen_21 : decode cX4_screen 21 = .ok (.aload_n 0, 1) := by decide +kernel
theorem dX4_screen_22 : decode cX4_screen 22 = .ok (.getfield 10, 3) := by decide +kernel
theorem dX4_screen_25 : decode cX4_screen 25 = .ok (.getfield 62, 3) := by decide +kernel
theorem dX4_screen_28 : decode cX4_screen 28 = .ok (.istore_n 2, 1) := by decide +kernel
theorem dX4_screen_29 : decode cX4_screen 29 = .ok (.aload_n 0, 1) := by decide +kernel
theorem dX4_screen_30 : decode cX4_screen 30 = .ok (.getfield 10, 3) := by decide +kernel
theorem dX4_screen_33 : decode cX4_screen 33 = .ok (.iload_n 1, 1) := by decide +kernel
theorem dX4_screen_34 : decode cX4_screen 34 = .ok (.putfield 62, 3) := by decide +kernel
theorem dX4_screen_37 : decode cX4_screen 37 = .ok (.iload_n 2, 1) := by decide +kernel
theorem dX4_screen_38 : decode cX4_screen 38 = .ok (.ireturn, 1) := by decide +kernel
set_option maxRecDepth 20000 in
theorem ggX4_paint_X4_isPixel : GoodIn wsX4_paint wsX4_isPixel := goodIn_r _ [6] (by decide +kernel) (by decide +kernel)
set_option maxRecDepth 20000 in
theorem gX4_paint_X4_isPixel : GoodIn wsX4_paint (va_wsS RX4 66 yX4_isPixel wsX4_isPixel) := goodIn_app (goodIn_of _ (by decide +kernel)) ggX4_paint_X4_isPixel
set_option maxRecDepth 20000 in
theorem ggX4_paint_X4_isColour : GoodIn wsX4_paint wsX4_isColour := goodIn_r _ [9] (by decide +kernel) (by decide +kernel)
set_option maxRecDepth 20000 in
theorem gX4_paint_X4_isColour : GoodIn wsX4_paint (va_wsS RX4 58 yX4_isColour wsX4_isColour) := goodIn_app (goodIn_of _ (by decide +kernel)) ggX4_paint_X4_isColour
set_option maxRecDepth 20000 in
theorem ggX4_paint_X0_remember : GoodIn wsX4_paint wsX0_remember := goodIn_r _ [14, 15, 16, 17, 18, 19, 20, 21, 22, 23, 24, 25, 26, 27, 28, 29, 30, 31, 32, 33, 34, 35, 47, 48, 49, 50, 51, 52, 53, 54] (by decide +kernel) (by decide +kernel)
set_option maxRecDepth 20000 in
theorem gX4_paint_X0_remember : GoodIn wsX4_paint (wsV RX4 51 RX0 yX0_remember wsX0_remember) := goodIn_app (goodIn_of _ (by decide +kernel)) ggX4_paint_X0_remember
set_option maxRecDepth 20000 in
theorem ggX4_paint_X2_picture : GoodIn wsX4_paint wsX2_picture := goodIn_r _ [39, 32, 33, 50, 51, 52, 53, 54] (by decide +kernel) (by decide +kernel)
set_option maxRecDepth 20000 in
theorem gX4_paint_X2_picture : GoodIn wsX4_paint (wsV RX4 69 RX2 yX2_picture wsX2_picture) := goodIn_app (goodIn_of _ (by decide +kernel)) ggX4_paint_X2_picture
theorem dX4_paint_0 : decode cX4_paint 0 = .ok (.iload_n 2, 1) := by decide +kernel
theorem dX4_paint_1 : decode cX4_paint 1 = .ok (.invokestatic 66, 3) := by decide +kernel
theorem dX4_paint_4 : decode cX4_paint 4 = .ok (.ifCond .ne 5, 3) := by decide +kernel
theorem dX4_paint_7 : decode cX4_paint 7 = .ok (.iconst (-1), 1) := by decide +kernel
theorem dX4_paint_8 : decode cX4_paint 8 = .ok (.ireturn, 1) := by decide +kernel
theorem dX4_paint_9 : decode cX4_paint 9 = .ok (.iload_n 3, 1) := by decide +kernel
theorem dX4_paint_10 : decode cX4_paint 10 = .ok (.invokestatic 58, 3) := by decide +kernel
theorem dX4_paint_13 : decode cX4_paint 13 = .ok (.ifCond .ne 6, 3) := by decide +kernel
theorem dX4_paint_16 : decode cX4_paint 16 = .ok (.bipush (-2), 2) := by decide +kernel
theorem dX4_paint_18 : decode cX4_paint 18 = .ok (.ireturn, 1) := by decide +kernel
theorem dX4_paint_19 : decode cX4_paint 19 = .ok (.aload_n 0, 1) := by decide +kernel
theorem dX4_paint_20 : decode cX4_paint 20 = .ok (.getfield 39, 3) := by decide +kernel
theorem dX4_paint_23 : decode cX4_paint 23 = .ok (.aload_n 0, 1) := by decide +kernel
theorem dX4_paint_24 : decode cX4_paint 24 = .ok (.getfield 10, 3) := by decide +kernel
theorem dX4_paint_27 : decode cX4_paint 27 = .ok (.invokevirtual 51, 3) := by decide +kernel
theorem dX4_paint_30 : decode cX4_paint 30 = .ok (.aload_n 0, 1) := by decide +kernel
theorem dX4_paint_31 : decode cX4_paint 31 = .ok (.getfield 10, 3) := by decide +kernel
theorem dX4_paint_34 : decode cX4_paint 34 = .ok (.iload_n 1, 1) := by decide +kernel
theorem dX4_paint_35 : decode cX4_paint 35 = .ok (.invokevirtual 69, 3) := by decide +kernel
theorem dX4_paint_38 : decode cX4_paint 38 = .ok (.astore 4, 2) := by decide +kernel
theorem dX4_paint_40 : decode cX4_paint 40 = .ok (.aload 4, 2) := by decide +kernel
theorem dX4_paint_42 : decode cX4_paint 42 = .ok (.iload_n 2, 1) := by decide +kernel
theorem dX4_paint_43 : decode cX4_paint 43 = .ok (.iaload, 1) := by decide +kernel
theorem dX4_paint_44 : decode cX4_paint 44 = .ok (.istore 5, 2) := by decide +kernel
theorem dX4_paint_46 : decode cX4_paint 46 = .ok (.aload 4, 2) := by decide +kernel
theorem dX4_paint_48 : decode cX4_paint 48 = .ok (.iload_n 2, 1) := by decide +kernel
theorem dX4_paint_49 : decode cX4_paint 49 = .ok (.iload_n 3, 1) := by decide +kernel
theorem dX4_paint_50 : decode cX4_paint 50 = .ok (.iastore, 1) := by decide +kernel
theorem dX4_paint_51 : decode cX4_paint 51 = .ok (.iload 5, 2) := by decide +kernel
theorem dX4_paint_53 : decode cX4_paint 53 = .ok (.ireturn, 1) := by decide +kernel
set_option maxRecDepth 20000 in
theorem ggX4_fill_X4_isPixel : GoodIn wsX4_fill wsX4_isPixel := goodIn_r _ [6] (by decide +kernel) (by decide +kernel)
set_option maxRecDepth 20000 in
theorem gX4_fill_X4_isPixel : GoodIn wsX4_fill (va_wsS RX4 66 yX4_isPixel wsX4_isPixel) := goodIn_app (goodIn_of _ (by decide +kernel)) ggX4_fill_X4_isPixel
set_option maxRecDepth 20000 in
theorem ggX4_fill_X4_isColour : GoodIn wsX4_fill wsX4_isColour := goodIn_r _ [9] (by decide +kernel) (by decide +kernel)
set_option maxRecDepth 20000 in
theorem gX4_fill_X4_isColour : GoodIn wsX4_fill (va_wsS RX4 58 yX4_isColour wsX4_isColour) := goodIn_app (goodIn_of _ (by decide +kernel)) ggX4_fill_X4_isColour
set_option maxRecDepth 20000 in
theorem ggX4_fill_X0_remember : GoodIn wsX4_fill wsX0_remember := goodIn_r _ [14, 15, 16, 17, 18, 19, 20, 21, 22, 23, 24, 25, 26, 27, 28, 29, 30, 31, 32, 33, 34, 35, 57, 58, 59, 60, 61, 62, 63, 64] (by decide +kernel) (by decide +kernel)
set_option maxRecDepth 20000 in
theorem gX4_fill_X0_remember : GoodIn wsX4_fill (wsV RX4 51 RX0 yX0_remember wsX0_remember) := goodIn_app (goodIn_of _ (by decide +kernel)) ggX4_fill_X0_remember
set_option maxRecDepth 20000 in
theorem ggX4_fill_X2_picture : GoodIn wsX4_fill wsX2_picture := goodIn_r _ [39, 32, 33, 60, 61, 62, 63, 64] (by decide +kernel) (by decide +kernel)
set_option maxRecDepth 20000 in
theorem gX4_fill_X2_picture : GoodIn wsX4_fill (wsV RX4 69 RX2 yX2_picture wsX2_picture) := goodIn_app (goodIn_of _ (by decide +kernel)) ggX4_fill_X2_picture
set_option maxRecDepth 20000 in
theorem ggX4_fill_X4_fillBetween : GoodIn wsX4_fill wsX4_fillBetween := goodIn_r _ [42, 43, 44, 45, 46, 47, 48, 49] (by decide +kernel) (by decide +kernel)
set_option maxRecDepth 20000 in
theorem gX4_fill_X4_fillBetween : GoodIn wsX4_fill (va_wsS RX4 73 yX4_fillBetween wsX4_fillBetween) := goodIn_app (goodIn_of _ (by decide +kernel)) ggX4_fill_X4_fillBetween
theorem dX4_fill_0 : decode cX4_fill 0 = .ok (.iload_n 2, 1) := by decide +kernel
theorem dX4_fill_1 : decode cX4_fill 1 = .ok (.invokestatic 66, 3) := by decide +kernel
theorem dX4_fill_4 : decode cX4_fill 4 = .ok (.ifCond .eq 10, 3) := by decide +kernel
theorem dX4_fill_7 : decode cX4_fill 7 = .ok (.iload_n 3, 1) := by decide +kernel
theorem dX4_fill_8 : decode cX4_fill 8 = .ok (.invokestatic 66, 3) := by decide +kernel
theorem dX4_fill_11 : decode cX4_fill 11 = .ok (.ifCond .ne 5, 3) := by decide +kernel
theorem dX4_fill_14 : decode cX4_fill 14 = .ok (.iconst (-1), 1) := by decide +kernel
theorem dX4_fill_15 : decode cX4_fill 15 = .ok (.ireturn, 1) := by decide +kernel
theorem dX4_fill_16 : decode cX4_fill 16 = .ok (.iload 4, 2) := by decide +kernel
theorem dX4_fill_18 : decode cX4_fill 18 = .ok (.invokestatic 58, 3) := by decide +kernel
theorem dX4_fill_21 : decode cX4_fill 21 = .ok (.ifCond .ne 6, 3) := by decide +kernel
theorem dX4_fill_24 : decode cX4_fill 24 = .ok (.bipush (-2), 2) := by decide +kernel
theorem dX4_fill_26 : decode cX4_fill 26 = .ok (.ireturn, 1) := by decide +kernel
theorem dX4_fill_27 : decode cX4_fill 27 = .ok (.aload_n 0, 1) := by decide +kernel
theorem dX4_fill_28 : decode cX4_fill 28 = .ok (.getfield 39, 3) := by decide +kernel
theorem dX4_fill_31 : decode cX4_fill 31 = .ok (.aload_n 0, 1) := by decide +kernel
theorem dX4_fill_32 : decode cX4_fill 32 = .ok (.getfield 10, 3) := by decide +kernel
theorem dX4_fill_35 : decode cX4_fill 35 = .ok (.invokevirtual 51, 3) := by decide +kernel
theorem dX4_fill_38 : decode cX4_fill 38 = .ok (.aload_n 0, 1) := by decide +kernel
theorem dX4_fill_39 : decode cX4_fill 39 = .ok (.getfield 10, 3) := by decide +kernel
theorem dX4_fill_42 : decode cX4_fill 42 = .ok (.iload_n 1, 1) := by decide +kernel
theorem dX4_fill_43 : decode cX4_fill 43 = .ok (.invokevirtual 69, 3) := by decide +kernel
theorem dX4_fill_46 : decode cX4_fill 46 = .ok (.iload_n 2, 1) := by decide +kernel
theorem dX4_fill_47 : decode cX4_fill 47 = .ok (.iload_n 3, 1) := by decide +kernel
theorem dX4_fill_48 : decode cX4_fill 48 = .ok (.iload 4, 2) := by decide +kernel
theorem dX4_fill_50 : decode cX4_fill 50 = .ok (.invokestatic 73, 3) := by decide +kernel
theorem dX4_fill_53 : decode cX4_fill 53 = .ok (.ireturn, 1) := by decide +kernel
set_option maxRecDepth 20000 in
theorem ggX4_read_X4_isRow : GoodIn wsX4_read wsX4_isRow := goodIn_r _ [8] (by decide +kernel) (by decide +kernel)
set_option maxRecDepth 20000 in
theorem gX4_read_X4_isRow : GoodIn wsX4_read (va_wsS RX4 77 yX4_isRow wsX4_isRow) := goodIn_app (goodIn_of _ (by decide +kernel)) ggX4_read_X4_isRow
set_option maxRecDepth 20000 in
theorem ggX4_read_X1_firstFault : GoodIn wsX4_read wsX1_firstFault := goodIn_r _ [13, 14, 15, 16, 17, 12, 18, 62, 63] (by decide +kernel) (by decide +kernel)
set_option maxRecDepth 20000 in
theorem gX4_read_X1_firstFault : GoodIn wsX4_read (wsV RX4 80 RX1 yX1_firstFault wsX1_firstFault) := goodIn_app (goodIn_of _ (by decide +kernel)) ggX4_read_X1_firstFault
set_option maxRecDepth 20000 in
theorem ggX4_read_X0_remember : GoodIn wsX4_read wsX0_remember := goodIn_r _ [23, 24, 25, 26, 27, 28, 29, 30, 31, 32, 33, 34, 35, 36, 37, 38, 39, 40, 41, 42, 43, 44, 64, 65, 66, 67, 68, 69, 70, 71] (by decide +kernel) (by decide +kernel)
set_option maxRecDepth 20000 in
theorem gX4_read_X0_remember : GoodIn wsX4_read (wsV RX4 51 RX0 yX0_remember wsX0_remember) := goodIn_app (goodIn_of _ (by decide +kernel)) ggX4_read_X0_remember
set_option maxRecDepth 20000 in
theorem ggX4_read_X2_picture : GoodIn wsX4_read wsX2_picture := goodIn_r _ [48, 41, 42, 67, 68, 69, 70, 71] (by decide +kernel) (by decide +kernel)
set_option maxRecDepth 20000 in
theorem gX4_read_X2_picture : GoodIn wsX4_read (wsV RX4 69 RX2 yX2_picture wsX2_picture) := goodIn_app (goodIn_of _ (by decide +kernel)) ggX4_read_X2_picture
set_option maxRecDepth 20000 in
theorem ggX4_read_X1_paintOn : GoodIn wsX4_read wsX1_paintOn := goodIn_r _ [52, 14, 15, 16, 17, 12, 18, 53, 7, 54, 62, 63] (by decide +kernel) (by decide +kernel)
set_option maxRecDepth 20000 in
theorem gX4_read_X1_paintOn : GoodIn wsX4_read (wsV RX4 84 RX1 yX1_paintOn wsX1_paintOn) := goodIn_app (goodIn_of _ (by decide +kernel)) ggX4_read_X1_paintOn
theorem dX4_read_0 : decode cX4_read 0 = .ok (.iload_n 2, 1) := by decide +kernel
theorem dX4_read_1 : decode cX4_read 1 = .ok (.invokestatic 77, 3) := by decide +kernel
theorem dX4_read_4 : decode cX4_read 4 = .ok (.ifCond .ne 5, 3) := by decide +kernel
theorem dX4_read_7 : decode cX4_read 7 = .ok (.iconst (-1), 1) := by decide +kernel
theorem dX4_read_8 : decode cX4_read 8 = .ok (.ireturn, 1) := by decide +kernel
theorem dX4_read_9 : decode cX4_read 9 = .ok (.aload_n 0, 1) := by decide +kernel
theorem dX4_read_10 : decode cX4_read 10 = .ok (.getfield 32, 3) := by decide +kernel
theorem dX4_read_13 : decode cX4_read 13 = .ok (.invokevirtual 80, 3) := by decide +kernel
theorem dX4_read_16 : decode cX4_read 16 = .ok (.bipush (-6), 2) := by decide +kernel
theorem dX4_read_18 : decode cX4_read 18 = .ok (.if_icmp .eq 6, 3) := by decide +kernel
theorem dX4_read_21 : decode cX4_read 21 = .ok (.bipush (-3), 2) := by decide +kernel
theorem dX4_read_23 : decode cX4_read 23 = .ok (.ireturn, 1) := by decide +kernel
theorem dX4_read_24 : decode cX4_read 24 = .ok (.aload_n 0, 1) := by decide +kernel
theorem dX4_read_25 : decode cX4_read 25 = .ok (.getfield 39, 3) := by decide +kernel
theorem dX4_read_28 : decode cX4_read 28 = .ok (.aload_n 0, 1) := by decide +kernel
theorem dX4_read_29 : decode cX4_read 29 = .ok (.getfield 10, 3) := by decide +kernel
theorem dX4_read_32 : decode cX4_read 32 = .ok (.invokevirtual 51, 3) := by decide +kernel
theorem dX4_read_35 : decode cX4_read 35 = .ok (.aload_n 0, 1) := by decide +kernel
theorem dX4_read_36 : decode cX4_read 36 = .ok (.getfield 32, 3) := by decide +kernel
theorem dX4_read_39 : decode cX4_read 39 = .ok (.aload_n 0, 1) := by decide +kernel
theorem dX4_read_40 : decode cX4_read 40 = .ok (.getfield 10, 3) := by decide +kernel
theorem dX4_read_43 : decode cX4_read 43 = .ok (.iload_n 1, 1) := by decide +kernel
theorem dX4_read_44 : decode cX4_read 44 = .ok (.invokevirtual 69, 3) := by decide +kernel
theorem dX4_read_47 : decode cX4_read 47 = .ok (.bipush 8, 2) := by decide +kernel
theorem dX4_read_49 : decode cX4_read 49 = .ok (.iload_n 2, 1) := by decide +kernel
theorem dX4_read_50 : decode cX4_read 50 = .ok (.imul, 1) := by decide +kernel
theorem dX4_read_51 : decode cX4_read 51 = .ok (.invokevirtual 84, 3) := by decide +kernel
theorem dX4_read_54 : decode cX4_read 54 = .ok (.istore_n 3, 1) := by decide +kernel
theorem dX4_read_55 : decode cX4_read 55 = .ok (.aload_n 0, 1) := by decide +kernel
theorem dX4_read_56 : decode cX4_read 56 = .ok (.getfield 32, 3) := by decide +kernel
theorem dX4_read_59 : decode cX4_read 59 = .ok (.iconst 0, 1) := by decide +kernel
theorem dX4_read_60 : decode cX4_read 60 = .ok (.putfield 88, 3) := by decide +kernel
theorem dX4_read_63 : decode cX4_read 63 = .ok (.iload_n 3, 1) := by decide +kernel
theorem dX4_read_64 : decode cX4_read 64 = .ok (.ireturn, 1) := by decide +kernel
set_option maxRecDepth 20000 in
theorem ggX4_mark_X4_isPixel : GoodIn wsX4_mark wsX4_isPixel := goodIn_r _ [7] (by decide +kernel) (by decide +kernel)
set_option maxRecDepth 20000 in
theorem gX4_mark_X4_isPixel : GoodIn wsX4_mark (va_wsS RX4 66 yX4_isPixel wsX4_isPixel) := goodIn_app (goodIn_of _ (by decide +kernel)) ggX4_mark_X4_isPixel
set_option maxRecDepth 20000 in
theorem ggX4_mark_X0_remember : GoodIn wsX4_mark wsX0_remember := goodIn_r _ [12, 13, 14, 15, 16, 17, 18, 19, 20, 21, 22, 23, 24, 25, 26, 27, 28, 29, 30, 31, 32, 33, 50, 51, 52, 45, 46, 47, 48, 49] (by decide +kernel) (by decide +kernel)
set_option maxRecDepth 20000 in
theorem gX4_mark_X0_remember : GoodIn wsX4_mark (wsV RX4 51 RX0 yX0_remember wsX0_remember) := goodIn_app (goodIn_of _ (by decide +kernel)) ggX4_mark_X0_remember
set_option maxRecDepth 20000 in
theorem ggX4_mark_X2_marked : GoodIn wsX4_mark wsX2_marked := goodIn_r _ [37, 32, 45, 46, 47, 48, 49] (by decide +kernel) (by decide +kernel)
set_option maxRecDepth 20000 in
theorem gX4_mark_X2_marked : GoodIn wsX4_mark (wsV RX4 95 RX2 yX2_marked wsX2_marked) := goodIn_app (goodIn_of _ (by decide +kernel)) ggX4_mark_X2_marked
theorem dX4_mark_0 : decode cX4_mark 0 = .ok (.iload_n 1, 1) := by decide +kernel
theorem dX4_mark_1 : decode cX4_mark 1 = .ok (.invokestatic 66, 3) := by decide +kernel
theorem dX4_mark_4 : decode cX4_mark 4 = .ok (.ifCond .ne 5, 3) := by decide +kernel
theorem dX4_mark_7 : decode cX4_mark 7 = .ok (.iconst (-1), 1) := by decide +kernel
theorem dX4_mark_8 : decode cX4_mark 8 = .ok (.ireturn, 1) := by decide +kernel
theorem dX4_mark_9 : decode cX4_mark 9 = .ok (.aload_n 0, 1) := by decide +kernel
theorem dX4_mark_10 : decode cX4_mark 10 = .ok (.getfield 10, 3) := by decide +kernel
theorem dX4_mark_13 : decode cX4_mark 13 = .ok (.getfield 91, 3) := by decide +kernel
theorem dX4_mark_16 : decode cX4_mark 16 = .ok (.iload_n 1, 1) := by decide +kernel
theorem dX4_mark_17 : decode cX4_mark 17 = .ok (.baload, 1) := by decide +kernel
theorem dX4_mark_18 : decode cX4_mark 18 = .ok (.iload_n 2, 1) := by decide +kernel
theorem dX4_mark_19 : decode cX4_mark 19 = .ok (.if_icmp .ne 6, 3) := by decide +kernel
theorem dX4_mark_22 : decode cX4_mark 22 = .ok (.bipush (-5), 2) := by decide +kernel
theorem dX4_mark_24 : decode cX4_mark 24 = .ok (.ireturn, 1) := by decide +kernel
theorem dX4_mark_25 : decode cX4_mark 25 = .ok (.aload_n 0, 1) := by decide +kernel
theorem dX4_mark_26 : decode cX4_mark 26 = .ok (.getfield 39, 3) := by decide +kernel
theorem dX4_mark_29 : decode cX4_mark 29 = .ok (.aload_n 0, 1) := by decide +kernel
theorem dX4_mark_30 : decode cX4_mark 30 = .ok (.getfield 10, 3) := by decide +kernel
theorem dX4_mark_33 : decode cX4_mark 33 = .ok (.invokevirtual 51, 3) := by decide +kernel
theorem dX4_mark_36 : decode cX4_mark 36 = .ok (.aload_n 0, 1) := by decide +kernel
theorem dX4_mark_37 : decode cX4_mark 37 = .ok (.getfield 10, 3) := by decide +kernel
theorem dX4_mark_40 : decode cX4_mark 40 = .ok (.getfield 91, 3) := by decide +kernel
theorem dX4_mark_43 : decode cX4_mark 43 = .ok (.iload_n 1, 1) := by decide +kernel
theorem dX4_mark_44 : decode cX4_mark 44 = .ok (.iload_n 2, 1) := by decide +kernel
theorem dX4_mark_45 : decode cX4_mark 45 = .ok (.bastore, 1) := by decide +kernel
theorem dX4_mark_46 : decode cX4_mark 46 = .ok (.aload_n 0, 1) := by decide +kernel
theorem dX4_mark_47 : decode cX4_mark 47 = .ok (.getfield 10, 3) := by decide +kernel
theorem dX4_mark_50 : decode cX4_mark 50 = .ok (.invokevirtual 95, 3) := by decide +kernel
theorem dX4_mark_53 : decode cX4_mark 53 = .ok (.ireturn, 1) := by decide +kernel
set_option maxRecDepth 20000 in
theorem ggX4_keep_X0_remember : GoodIn wsX4_keep wsX0_remember := goodIn_r _ [11, 12, 13, 14, 15, 16, 17, 18, 19, 20, 21, 22, 23, 24, 25, 26, 27, 28, 29, 30, 31, 32, 148, 149, 150, 143, 144, 145, 146, 147] (by decide +kernel) (by decide +kernel)
set_option maxRecDepth 20000 in
theorem gX4_keep_X0_remember : GoodIn wsX4_keep (wsV RX4 51 RX0 yX0_remember wsX0_remember) := goodIn_app (goodIn_of _ (by decide +kernel)) ggX4_keep_X0_remember
set_option maxRecDepth 20000 in
theorem ggX4_keep_X3_show : GoodIn wsX4_keep wsX3_show := goodIn_r _ [37, 38, 39, 40, 36, 41, 42, 43, 44, 45, 46, 47, 22, 48, 29, 32, 49, 50, 51, 52, 53, 54, 55, 56, 57, 58, 59, 60, 61, 62, 63, 64, 65, 66, 67, 68, 69, 70, 71, 72, 73, 74, 75, 76, 77, 78, 79, 80, 81, 82, 83, 84, 85, 86, 87, 88, 89, 90, 91, 92, 93, 94, 95, 96, 97, 98, 99, 100, 101, 102, 103, 104, 105, 106, 107, 108, 109, 110, 111, 112, 113, 114, 115, 116, 117, 118, 119, 120, 121, 122, 143, 144, 145, 146, 147, 133, 134, 135, 136, 137, 138, 139, 140, 141, 142] (by decide +kernel) (by decide +kernel)
set_option maxRecDepth 20000 in
theorem gX4_keep_X3_show : GoodIn wsX4_keep (wsV RX4 98 RX3 yX3_show wsX3_show) := goodIn_app (goodIn_of _ (by decide +kernel)) ggX4_keep_X3_show
set_option maxRecDepth 20000 in
theorem ggX4_keep_X4_sameColours : GoodIn wsX4_keep wsX4_sameColours := goodIn_r _ [125] (by decide +kernel) (by decide +kernel)
set_option maxRecDepth 20000 in
theorem gX4_keep_X4_sameColours : GoodIn wsX4_keep (va_wsS RX4 108 yX4_sameColours wsX4_sameColours) := goodIn_app (goodIn_of _ (by decide +kernel)) ggX4_keep_X4_sameColours
theorem dX4_keep_0 : decode cX4_keep 0 = .ok (.aload_n 0, 1) := by decide +kernel
theorem dX4_keep_1 : decode cX4_keep 1 = .ok (.getfield 39, 3) := by decide +kernel
theorem dX4_keep_4 : decode cX4_keep 4 = .ok (.aload_n 0, 1) := by decide +kernel
theorem dX4_keep_5 : decode cX4_keep 5 = .ok (.getfield 10, 3) := by decide +kernel
theorem dX4_keep_8 : decode cX4_keep 8 = .ok (.invokevirtual 51, 3) := by decide +kernel
theorem dX4_keep_11 : decode cX4_keep 11 = .ok (.aload_n 0, 1) := by decide +kernel
theorem dX4_keep_12 : decode cX4_keep 12 = .ok (.getfield 22, 3) := by decide +kernel
theorem dX4_keep_15 : decode cX4_keep 15 = .ok (.aload_n 0, 1) := by decide +kernel
theorem dX4_keep_16 : decode cX4_keep 16 = .ok (.getfield 10, 3) := by decide +kernel
theorem dX4_keep_19 : decode cX4_keep 19 = .ok (.invokevirtual 98, 3) := by decide +kernel
theorem dX4_keep_22 : decode cX4_keep 22 = .ok (.bipush 48, 2) := by decide +kernel
theorem dX4_keep_24 : decode cX4_keep 24 = .ok (.aload_n 0, 1) := by decide +kernel
theorem dX4_keep_25 : decode cX4_keep 25 = .ok (.getfield 22, 3) := by decide +kernel
theorem dX4_keep_28 : decode cX4_keep 28 = .ok (.getfield 101, 3) := by decide +kernel
theorem dX4_keep_31 : decode cX4_keep 31 = .ok (.aload_n 0, 1) := by decide +kernel
theorem dX4_keep_32 : decode cX4_keep 32 = .ok (.getfield 10, 3) := by decide +kernel
theorem dX4_keep_35 : decode cX4_keep 35 = .ok (.getfield 105, 3) := by decide +kernel
theorem dX4_keep_38 : decode cX4_keep 38 = .ok (.invokestatic 108, 3) := by decide +kernel
theorem dX4_keep_41 : decode cX4_keep 41 = .ok (.isub, 1) := by decide +kernel
theorem dX4_keep_42 : decode cX4_keep 42 = .ok (.istore_n 1, 1) := by decide +kernel
theorem dX4_keep_43 : decode cX4_keep 43 = .ok (.iconst 0, 1) := by decide +kernel
theorem dX4_keep_44 : decode cX4_keep 44 = .ok (.istore_n 2, 1) := by decide +kernel
theorem dX4_keep_45 : decode cX4_keep 45 = .ok (.iload_n 2, 1) := by decide +kernel
theorem dX4_keep_46 : decode cX4_keep 46 = .ok (.bipush 48, 2) := by decide +kernel
theorem dX4_keep_48 : decode cX4_keep 48 = .ok (.if_icmp .ge 37, 3) := by decide +kernel
theorem dX4_keep_51 : decode cX4_keep 51 = .ok (.aload_n 0, 1) := by decide +kernel
theorem dX4_keep_52 : decode cX4_keep 52 = .ok (.getfield 10, 3) := by decide +kernel
theorem dX4_keep_55 : decode cX4_keep 55 = .ok (.getfield 105, 3) := by decide +kernel
theorem dX4_keep_58 : decode cX4_keep 58 = .ok (.iload_n 2, 1) := by decide +kernel
theorem dX4_keep_59 : decode cX4_keep 59 = .ok (.aload_n 0, 1) := by decide +kernel
theorem dX4_keep_60 : decode cX4_keep 60 = .ok (.getfield 22, 3) := by decide +kernel
theorem dX4_keep_63 : decode cX4_keep 63 = .ok (.getfield 101, 3) := by decide +kernel
theorem dX4_keep_66 : decode cX4_keep 66 = .ok (.iload_n 2, 1) := by decide +kernel
theorem dX4_keep_67 : decode cX4_keep 67 = .ok (.iaload, 1) := by decide +kernel
theorem dX4_keep_68 : decode cX4_keep 68 = .ok (.iastore, 1) := by decide +kernel
theorem dX4_keep_69 : decode cX4_keep 69 = .ok (.aload_n 0, 1) := by decide +kernel
theorem dX4_keep_70 : decode cX4_keep 70 = .ok (.getfield 10, 3) := by decide +kernel
theorem dX4_keep_73 : decode cX4_keep 73 = .ok (.getfield 91, 3) := by decide +kernel
theorem dX4_keep_76 : decode cX4_keep 76 = .ok (.iload_n 2, 1) := by decide +kernel
theorem dX4_keep_77 : decode cX4_keep 77 = .ok (.iconst 0, 1) := by decide +kernel
theorem dX4_keep_78 : decode cX4_keep 78 = .ok (.bastore, 1) := by decide +kernel
theorem dX4_keep_79 : decode cX4_keep 79 = .ok (.iinc 2 1, 3) := by decide +kernel
theorem dX4_keep_82 : decode cX4_keep 82 = .ok (.goto (-37), 3) := by decide +kernel
theorem dX4_keep_85 : decode cX4_keep 85 = .ok (.iload_n 1, 1) := by decide +kernel
theorem dX4_keep_86 : decode cX4_keep 86 = .ok (.ireturn, 1) := by decide +kernel
set_option maxRecDepth 20000 in
theorem ggX4_pixel_X4_isPixel : GoodIn wsX4_pixel wsX4_isPixel := goodIn_r _ [15] (by decide +kernel) (by decide +kernel)
set_option maxRecDepth 20000 in
theorem gX4_pixel_X4_isPixel : GoodIn wsX4_pixel (va_wsS RX4 66 yX4_isPixel wsX4_isPixel) := goodIn_app (goodIn_of _ (by decide +kernel)) ggX4_pixel_X4_isPixel
set_option maxRecDepth 20000 in
theorem ggX4_pixel_X3_show : GoodIn wsX4_pixel wsX3_show := goodIn_r _ [20, 21, 22, 23, 19, 24, 25, 26, 27, 28, 29, 30, 31, 32, 33, 34, 13, 14, 15, 35, 36, 37, 38, 39, 40, 41, 42, 43, 44, 45, 46, 47, 48, 49, 50, 51, 52, 53, 54, 55, 56, 57, 58, 59, 60, 61, 62, 63, 64, 65, 66, 67, 68, 69, 70, 71, 72, 73, 74, 75, 76, 77, 78, 79, 80, 81, 82, 83, 84, 85, 86, 87, 88, 89, 90, 91, 92, 93, 94, 95, 96, 97, 98, 99, 100, 101, 102, 103, 104, 105, 114, 115, 116, 117, 118, 119, 120, 121, 122, 123, 124, 125, 126, 127, 128] (by decide +kernel) (by decide +kernel)
set_option maxRecDepth 20000 in
theorem gX4_pixel_X3_show : GoodIn wsX4_pixel (wsV RX4 98 RX3 yX3_show wsX3_show) := goodIn_app (goodIn_of _ (by decide +kernel)) ggX4_pixel_X3_show
set_option maxRecDepth 20000 in
theorem ggX4_pixel_X2_distanceOf : GoodIn wsX4_pixel wsX2_distanceOf := goodIn_r _ [32, 33, 34, 13, 14, 15, 35, 36, 37, 38, 39, 40, 41, 42, 43, 44, 45, 46, 114, 115, 116, 117, 118] (by decide +kernel) (by decide +kernel)
set_option maxRecDepth 20000 in
theorem gX4_pixel_X2_distanceOf : GoodIn wsX4_pixel (wsV RX4 115 RX2 yX2_distanceOf wsX2_distanceOf) := goodIn_app (goodIn_of _ (by decide +kernel)) ggX4_pixel_X2_distanceOf
theorem dX4_pixel_0 : decode cX4_pixel 0 = .ok (.iload_n 1, 1) := by decide +kernel
theorem dX4_pixel_1 : decode cX4_pixel 1 = .ok (.invokestatic 66, 3) := by decide +kernel
theorem dX4_pixel_4 : decode cX4_pixel 4 = .ok (.ifCond .ne 5, 3) := by decide +kernel
theorem dX4_pixel_7 : decode cX4_pixel 7 = .ok (.iconst (-1), 1) := by decide +kernel
theorem dX4_pixel_8 : decode cX4_pixel 8 = .ok (.ireturn, 1) := by decide +kernel
theorem dX4_pixel_9 : decode cX4_pixel 9 = .ok (.aload_n 0, 1) := by decide +kernel
theorem dX4_pixel_10 : decode cX4_pixel 10 = .ok (.getfield 22, 3) := by decide +kernel
theorem dX4_pixel_13 : decode cX4_pixel 13 = .ok (.aload_n 0, 1) := by decide +kernel
theorem dX4_pixel_14 : decode cX4_pixel 14 = .ok (.getfield 10, 3) := by decide +kernel
theorem dX4_pixel_17 : decode cX4_pixel 17 = .ok (.invokevirtual 98, 3) := by decide +kernel
theorem dX4_pixel_20 : decode cX4_pixel 20 = .ok (.iload_n 2, 1) := by decide +kernel
theorem dX4_pixel_21 : decode cX4_pixel 21 = .ok (.tableswitch 154 0 9 #[55, 65, 75, 84, 94, 104, 114, 124, 134, 144], 55) := by decide +kernel
theorem dX4_pixel_76 : decode cX4_pixel 76 = .ok (.aload_n 0, 1) := by decide +kernel
theorem dX4_pixel_77 : decode cX4_pixel 77 = .ok (.getfield 10, 3) := by decide +kernel
theorem dX4_pixel_80 : decode cX4_pixel 80 = .ok (.getfield 105, 3) := by decide +kernel
theorem dX4_pixel_83 : decode cX4_pixel 83 = .ok (.iload_n 1, 1) := by decide +kernel
theorem dX4_pixel_84 : decode cX4_pixel 84 = .ok (.iaload, 1) := by decide +kernel
theorem dX4_pixel_85 : decode cX4_pixel 85 = .ok (.ireturn, 1) := by decide +kernel
theorem dX4_pixel_86 : decode cX4_pixel 86 = .ok (.aload_n 0, 1) := by decide +kernel
theorem dX4_pixel_87 : decode cX4_pixel 87 = .ok (.getfield 10, 3) := by decide +kernel
theorem dX4_pixel_90 : decode cX4_pixel 90 = .ok (.getfield 112, 3) := by decide +kernel
theorem dX4_pixel_93 : decode cX4_pixel 93 = .ok (.iload_n 1, 1) := by decide +kernel
theorem dX4_pixel_94 : decode cX4_pixel 94 = .ok (.iaload, 1) := by decide +kernel
theorem dX4_pixel_95 : decode cX4_pixel 95 = .ok (.ireturn, 1) := by decide +kernel
theorem dX4_pixel_96 : decode cX4_pixel 96 = .ok (.aload_n 0, 1) := by decide +kernel
theorem dX4_pixel_97 : decode cX4_pixel 97 = .ok (.getfield 10, 3) := by decide +kernel
theorem dX4_pixel_100 : decode cX4_pixel 100 = .ok (.iload_n 1, 1) := by decide +kernel
theorem dX4_pixel_101 : decode cX4_pixel 101 = .ok (.invokevirtual 115, 3) := by decide +kernel
theorem dX4_pixel_104 : decode cX4_pixel 104 = .ok (.ireturn, 1) := by decide +kernel
theorem dX4_pixel_105 : decode cX4_pixel 105 = .ok (.aload_n 0, 1) := by decide +kernel
theorem dX4_pixel_106 : decode cX4_pixel 106 = .ok (.getfield 22, 3) := by decide +kernel
theorem dX4_pixel_109 : decode cX4_pixel 109 = .ok (.getfield 119, 3) := by decide +kernel
theorem dX4_pixel_112 : decode cX4_pixel 112 = .ok (.iload_n 1, 1) := by decide +kernel
theorem dX4_pixel_113 : decode cX4_pixel 113 = .ok (.iaload, 1) := by decide +kernel
theorem dX4_pixel_114 : decode cX4_pixel 114 = .ok (.ireturn, 1) := by decide +kernel
theorem dX4_pixel_115 : decode cX4_pixel 115 = .ok (.aload_n 0, 1) := by decide +kernel
theorem dX4_pixel_116 : decode cX4_pixel 116 = .ok (.getfield 22, 3) := by decide +kernel
theorem dX4_pixel_119 : decode cX4_pixel 119 = .ok (.getfield 122, 3) := by decide +kernel
theorem dX4_pixel_122 : decode cX4_pixel 122 = .ok (.iload_n 1, 1) := by decide +kernel
theorem dX4_pixel_123 : decode cX4_pixel 123 = .ok (.iaload, 1) := by decide +kernel
theorem dX4_pixel_124 : decode cX4_pixel 124 = .ok (.ireturn, 1) := by decide +kernel
theorem dX4_pixel_125 : decode cX4_pixel 125 = .ok (.aload_n 0, 1) := by decide +kernel
theorem dX4_pixel_126 : decode cX4_pixel 126 = .ok (.getfield 22, 3) := by decide +kernel
theorem dX4_pixel_129 : decode cX4_pixel 129 = .ok (.getfield 125, 3) := by decide +kernel
theorem dX4_pixel_132 : decode cX4_pixel 132 = .ok (.iload_n 1, 1) := by decide +kernel
theorem dX4_pixel_133 : decode cX4_pixel 133 = .ok (.iaload, 1) := by decide +kernel
theorem dX4_pixel_134 : decode cX4_pixel 134 = .ok (.ireturn, 1) := by decide +kernel
theorem dX4_pixel_135 : decode cX4_pixel 135 = .ok (.aload_n 0, 1) := by decide +kernel
theorem dX4_pixel_136 : decode cX4_pixel 136 = .ok (.getfield 22, 3) := by decide +kernel
theorem dX4_pixel_139 : decode cX4_pixel 139 = .ok (.getfield 128, 3) := by decide +kernel
theorem dX4_pixel_142 : decode cX4_pixel 142 = .ok (.iload_n 1, 1) := by decide +kernel
theorem dX4_pixel_143 : decode cX4_pixel 143 = .ok (.iaload, 1) := by decide +kernel
theorem dX4_pixel_144 : decode cX4_pixel 144 = .ok (.ireturn, 1) := by decide +kernel
theorem dX4_pixel_145 : decode cX4_pixel 145 = .ok (.aload_n 0, 1) := by decide +kernel
theorem dX4_pixel_146 : decode cX4_pixel 146 = .ok (.getfield 22, 3) := by decide +kernel
theorem dX4_pixel_149 : decode cX4_pixel 149 = .ok (.getfield 131, 3) := by decide +kernel
theorem dX4_pixel_152 : decode cX4_pixel 152 = .ok (.iload_n 1, 1) := by decide +kernel
theorem dX4_pixel_153 : decode cX4_pixel 153 = .ok (.iaload, 1) := by decide +kernel
theorem dX4_pixel_154 : decode cX4_pixel 154 = .ok (.ireturn, 1) := by decide +kernel
theorem dX4_pixel_155 : decode cX4_pixel 155 = .ok (.aload_n 0, 1) := by decide +kernel
theorem dX4_pixel_156 : decode cX4_pixel 156 = .ok (.getfield 22, 3) := by decide +kernel
theorem dX4_pixel_159 : decode cX4_pixel 159 = .ok (.getfield 134, 3) := by decide +kernel
theorem dX4_pixel_162 : decode cX4_pixel 162 = .ok (.iload_n 1, 1) := by decide +kernel
theorem dX4_pixel_163 : decode cX4_pixel 163 = .ok (.iaload, 1) := by decide +kernel
theorem dX4_pixel_164 : decode cX4_pixel 164 = .ok (.ireturn, 1) := by decide +kernel
theorem dX4_pixel_165 : decode cX4_pixel 165 = .ok (.aload_n 0, 1) := by decide +kernel
theorem dX4_pixel_166 : decode cX4_pixel 166 = .ok (.getfield 22, 3) := by decide +kernel
theorem dX4_pixel_169 : decode cX4_pixel 169 = .ok (.getfield 101, 3) := by decide +kernel
theorem dX4_pixel_172 : decode cX4_pixel 172 = .ok (.iload_n 1, 1) := by decide +kernel
theorem dX4_pixel_173 : decode cX4_pixel 173 = .ok (.iaload, 1) := by decide +kernel
theorem dX4_pixel_174 : decode cX4_pixel 174 = .ok (.ireturn, 1) := by decide +kernel
theorem dX4_pixel_175 : decode cX4_pixel 175 = .ok (.bipush (-2), 2) := by decide +kernel
theorem dX4_pixel_177 : decode cX4_pixel 177 = .ok (.ireturn, 1) := by decide +kernel
set_option maxRecDepth 20000 in
theorem ggX4_count_X3_show : GoodIn wsX4_count wsX3_show := goodIn_r _ [19, 20, 21, 22, 18, 23, 24, 25, 26, 27, 28, 29, 30, 31, 32, 33, 34, 35, 36, 37, 38, 39, 40, 41, 42, 43, 44, 45, 46, 47, 48, 49, 50, 51, 52, 53, 54, 55, 56, 57, 58, 59, 60, 61, 62, 63, 64, 65, 66, 67, 68, 69, 70, 71, 72, 73, 74, 75, 76, 77, 78, 79, 80, 81, 82, 83, 84, 85, 86, 87, 88, 89, 90, 91, 92, 93, 94, 95, 96, 97, 98, 99, 100, 101, 102, 103, 104, 105, 106, 107, 134, 135, 136, 137, 138, 139, 140, 141, 142, 143, 144, 145, 146, 147, 148] (by decide +kernel) (by decide +kernel)
set_option maxRecDepth 20000 in
theorem gX4_count_X3_show : GoodIn wsX4_count (wsV RX4 98 RX3 yX3_show wsX3_show) := goodIn_app (goodIn_of _ (by decide +kernel)) ggX4_count_X3_show
set_option maxRecDepth 20000 in
theorem ggX4_count_X3_ofKind : GoodIn wsX4_count wsX3_ofKind := goodIn_r _ [111, 75, 139, 140, 141, 142, 143, 144, 145, 146, 147, 148] (by decide +kernel) (by decide +kernel)
set_option maxRecDepth 20000 in
theorem gX4_count_X3_ofKind : GoodIn wsX4_count (wsV RX4 140 RX3 yX3_ofKind wsX3_ofKind) := goodIn_app (goodIn_of _ (by decide +kernel)) ggX4_count_X3_ofKind
set_option maxRecDepth 20000 in
theorem ggX4_count_X4_sum : GoodIn wsX4_count wsX4_sum := goodIn_r _ [114] (by decide +kernel) (by decide +kernel)
set_option maxRecDepth 20000 in
theorem gX4_count_X4_sum : GoodIn wsX4_count (va_wsS RX4 143 yX4_sum wsX4_sum) := goodIn_app (goodIn_of _ (by decide +kernel)) ggX4_count_X4_sum
set_option maxRecDepth 20000 in
theorem ggX4_count_X3_closed : GoodIn wsX4_count wsX3_closed := goodIn_r _ [118, 26, 25, 139, 140, 141, 142, 143, 144, 145, 146, 147, 148] (by decide +kernel) (by decide +kernel)
set_option maxRecDepth 20000 in
theorem gX4_count_X3_closed : GoodIn wsX4_count (wsV RX4 147 RX3 yX3_closed wsX3_closed) := goodIn_app (goodIn_of _ (by decide +kernel)) ggX4_count_X3_closed
set_option maxRecDepth 20000 in
theorem ggX4_count_X4_sameColours : GoodIn wsX4_count wsX4_sameColours := goodIn_r _ [121] (by decide +kernel) (by decide +kernel)
set_option maxRecDepth 20000 in
theorem gX4_count_X4_sameColours : GoodIn wsX4_count (va_wsS RX4 108 yX4_sameColours wsX4_sameColours) := goodIn_app (goodIn_of _ (by decide +kernel)) ggX4_count_X4_sameColours
set_option maxRecDepth 20000 in
theorem ggX4_count_X2_marked : GoodIn wsX4_count wsX2_marked := goodIn_r _ [125, 126, 134, 135, 136, 137, 138] (by decide +kernel) (by decide +kernel)
set_option maxRecDepth 20000 in
theorem gX4_count_X2_marked : GoodIn wsX4_count (wsV RX4 95 RX2 yX2_marked wsX2_marked) := goodIn_app (goodIn_of _ (by decide +kernel)) ggX4_count_X2_marked
theorem dX4_count_0 : decode cX4_count 0 = .ok (.iload_n 1, 1) := by decide +kernel
theorem dX4_count_1 : decode cX4_count 1 = .ok (.ifCond .lt 19, 3) := by decide +kernel
theorem dX4_count_4 : decode cX4_count 4 = .ok (.iload_n 1, 1) := by decide +kernel
theorem dX4_count_5 : decode cX4_count 5 = .ok (.bipush 6, 2) := by decide +kernel
theorem dX4_count_7 : decode cX4_count 7 = .ok (.if_icmp .ge 13, 3) := by decide +kernel
theorem dX4_count_10 : decode cX4_count 10 = .ok (.aload_n 0, 1) := by decide +kernel
theorem dX4_count_11 : decode cX4_count 11 = .ok (.getfield 10, 3) := by decide +kernel
theorem dX4_count_14 : decode cX4_count 14 = .ok (.getfield 137, 3) := by decide +kernel
theorem dX4_count_17 : decode cX4_count 17 = .ok (.iload_n 1, 1) := by decide +kernel
theorem dX4_count_18 : decode cX4_count 18 = .ok (.iaload, 1) := by decide +kernel
theorem dX4_count_19 : decode cX4_count 19 = .ok (.ireturn, 1) := by decide +kernel
theorem dX4_count_20 : decode cX4_count 20 = .ok (.aload_n 0, 1) := by decide +kernel
theorem dX4_count_21 : decode cX4_count 21 = .ok (.getfield 22, 3) := by decide +kernel
theorem dX4_count_24 : decode cX4_count 24 = .ok (.aload_n 0, 1) := by decide +kernel
theorem dX4_count_25 : decode cX4_count 25 = .ok (.getfield 10, 3) := by decide +kernel
theorem dX4_count_28 : decode cX4_count 28 = .ok (.invokevirtual 98, 3) := by decide +kernel
theorem dX4_count_31 : decode cX4_count 31 = .ok (.iload_n 1, 1) := by decide +kernel
theorem dX4_count_32 : decode cX4_count 32 = .ok (.tableswitch 230 6 20 #[76, 84, 93, 102, 111, 120, 129, 140, 151, 162, 170, 188, 206, 214, 222], 76) := by decide +kernel
theorem dX4_count_108 : decode cX4_count 108 = .ok (.aload_n 0, 1) := by decide +kernel
theorem dX4_count_109 : decode cX4_count 109 = .ok (.getfield 10, 3) := by decide +kernel
theorem dX4_count_112 : decode cX4_count 112 = .ok (.getfield 62, 3) := by decide +kernel
theorem dX4_count_115 : decode cX4_count 115 = .ok (.ireturn, 1) := by decide +kernel
theorem dX4_count_116 : decode cX4_count 116 = .ok (.aload_n 0, 1) := by decide +kernel
theorem dX4_count_117 : decode cX4_count 117 = .ok (.getfield 22, 3) := by decide +kernel
theorem dX4_count_120 : decode cX4_count 120 = .ok (.iconst 0, 1) := by decide +kernel
theorem dX4_count_121 : decode cX4_count 121 = .ok (.invokevirtual 140, 3) := by decide +kernel
theorem dX4_count_124 : decode cX4_count 124 = .ok (.ireturn, 1) := by decide +kernel
theorem dX4_count_125 : decode cX4_count 125 = .ok (.aload_n 0, 1) := by decide +kernel
theorem dX4_count_126 : decode cX4_count 126 = .ok (.getfield 22, 3) := by decide +kernel
theorem dX4_count_129 : decode cX4_count 129 = .ok (.iconst 1, 1) := by decide +kernel
theorem dX4_count_130 : decode cX4_count 130 = .ok (.invokevirtual 140, 3) := by decide +kernel
theorem dX4_count_133 : decode cX4_count 133 = .ok (.ireturn, 1) := by decide +kernel
theorem dX4_count_134 : decode cX4_count 134 = .ok (.aload_n 0, 1) := by decide +kernel
theorem dX4_count_135 : decode cX4_count 135 = .ok (.getfield 22, 3) := by decide +kernel
theorem dX4_count_138 : decode cX4_count 138 = .ok (.iconst 2, 1) := by decide +kernel
theorem dX4_count_139 : decode cX4_count 139 = .ok (.invokevirtual 140, 3) := by decide +kernel
theorem dX4_count_142 : decode cX4_count 142 = .ok (.ireturn, 1) := by decide +kernel
theorem dX4_count_143 : decode cX4_count 143 = .ok (.aload_n 0, 1) := by decide +kernel
theorem dX4_count_144 : decode cX4_count 144 = .ok (.getfield 22, 3) := by decide +kernel
theorem dX4_count_147 : decode cX4_count 147 = .ok (.iconst 3, 1) := by decide +kernel
theorem dX4_count_148 : decode cX4_count 148 = .ok (.invokevirtual 140, 3) := by decide +kernel
theorem dX4_count_151 : decode cX4_count 151 = .ok (.ireturn, 1) := by decide +kernel
theorem dX4_count_152 : decode cX4_count 152 = .ok (.aload_n 0, 1) := by decide +kernel
theorem dX4_count_153 : decode cX4_count 153 = .ok (.getfield 22, 3) := by decide +kernel
theorem dX4_count_156 : decode cX4_count 156 = .ok (.iconst 4, 1) := by decide +kernel
theorem dX4_count_157 : decode cX4_count 157 = .ok (.invokevirtual 140, 3) := by decide +kernel
theorem dX4_count_160 : decode cX4_count 160 = .ok (.ireturn, 1) := by decide +kernel
theorem dX4_count_161 : decode cX4_count 161 = .ok (.aload_n 0, 1) := by decide +kernel
theorem dX4_count_162 : decode cX4_count 162 = .ok (.getfield 22, 3) := by decide +kernel
theorem dX4_count_165 : decode cX4_count 165 = .ok (.getfield 122, 3) := by decide +kernel
theorem dX4_count_168 : decode cX4_count 168 = .ok (.invokestatic 143, 3) := by decide +kernel
theorem dX4_count_171 : decode cX4_count 171 = .ok (.ireturn, 1) := by decide +kernel
theorem dX4_count_172 : decode cX4_count 172 = .ok (.aload_n 0, 1) := by decide +kernel
theorem dX4_count_173 : decode cX4_count 173 = .ok (.getfield 22, 3) := by decide +kernel
theorem dX4_count_176 : decode cX4_count 176 = .ok (.getfield 128, 3) := by decide +kernel
theorem dX4_count_179 : decode cX4_count 179 = .ok (.invokestatic 143, 3) := by decide +kernel
theorem dX4_count_182 : decode cX4_count 182 = .ok (.ireturn, 1) := by decide +kernel
theorem dX4_count_183 : decode cX4_count 183 = .ok (.aload_n 0, 1) := by decide +kernel
theorem dX4_count_184 : decode cX4_count 184 = .ok (.getfield 22, 3) := by decide +kernel
theorem dX4_count_187 : decode cX4_count 187 = .ok (.getfield 131, 3) := by decide +kernel
theorem dX4_count_190 : decode cX4_count 190 = .ok (.invokestatic 143, 3) := by decide +kernel
theorem dX4_count_193 : decode cX4_count 193 = .ok (.ireturn, 1) := by decide +kernel
theorem dX4_count_194 : decode cX4_count 194 = .ok (.aload_n 0, 1) := by decide +kernel
theorem dX4_count_195 : decode cX4_count 195 = .ok (.getfield 22, 3) := by decide +kernel
theorem dX4_count_198 : decode cX4_count 198 = .ok (.invokevirtual 147, 3) := by decide +kernel
theorem dX4_count_201 : decode cX4_count 201 = .ok (.ireturn, 1) := by decide +kernel
theorem dX4_count_202 : decode cX4_count 202 = .ok (.aload_n 0, 1) := by decide +kernel
theorem dX4_count_203 : decode cX4_count 203 = .ok (.getfield 22, 3) := by decide +kernel
theorem dX4_count_206 : decode cX4_count 206 = .ok (.getfield 101, 3) := by decide +kernel
theorem dX4_count_209 : decode cX4_count 209 = .ok (.aload_n 0, 1) := by decide +kernel
theorem dX4_count_210 : decode cX4_count 210 = .ok (.getfield 10, 3) := by decide +kernel
theorem dX4_count_213 : decode cX4_count 213 = .ok (.getfield 112, 3) := by decide +kernel
theorem dX4_count_216 : decode cX4_count 216 = .ok (.invokestatic 108, 3) := by decide +kernel
theorem dX4_count_219 : decode cX4_count 219 = .ok (.ireturn, 1) := by decide +kernel
theorem dX4_count_220 : decode cX4_count 220 = .ok (.aload_n 0, 1) := by decide +kernel
theorem dX4_count_221 : decode cX4_count 221 = .ok (.getfield 22, 3) := by decide +kernel
theorem dX4_count_224 : decode cX4_count 224 = .ok (.getfield 101, 3) := by decide +kernel
theorem dX4_count_227 : decode cX4_count 227 = .ok (.aload_n 0, 1) := by decide +kernel
theorem dX4_count_228 : decode cX4_count 228 = .ok (.getfield 10, 3) := by decide +kernel
theorem dX4_count_231 : decode cX4_count 231 = .ok (.getfield 105, 3) := by decide +kernel
theorem dX4_count_234 : decode cX4_count 234 = .ok (.invokestatic 108, 3) := by decide +kernel
theorem dX4_count_237 : decode cX4_count 237 = .ok (.ireturn, 1) := by decide +kernel
theorem dX4_count_238 : decode cX4_count 238 = .ok (.aload_n 0, 1) := by decide +kernel
theorem dX4_count_239 : decode cX4_count 239 = .ok (.getfield 10, 3) := by decide +kernel
theorem dX4_count_242 : decode cX4_count 242 = .ok (.invokevirtual 95, 3) := by decide +kernel
theorem dX4_count_245 : decode cX4_count 245 = .ok (.ireturn, 1) := by decide +kernel
theorem dX4_count_246 : decode cX4_count 246 = .ok (.aload_n 0, 1) := by decide +kernel
theorem dX4_count_247 : decode cX4_count 247 = .ok (.getfield 32, 3) := by decide +kernel
theorem dX4_count_250 : decode cX4_count 250 = .ok (.getfield 88, 3) := by decide +kernel
theorem dX4_count_253 : decode cX4_count 253 = .ok (.ireturn, 1) := by decide +kernel
theorem dX4_count_254 : decode cX4_count 254 = .ok (.aload_n 0, 1) := by decide +kernel
theorem dX4_count_255 : decode cX4_count 255 = .ok (.getfield 39, 3) := by decide +kernel
theorem dX4_count_258 : decode cX4_count 258 = .ok (.getfield 150, 3) := by decide +kernel
theorem dX4_count_261 : decode cX4_count 261 = .ok (.ireturn, 1) := by decide +kernel
theorem dX4_count_262 : decode cX4_count 262 = .ok (.bipush (-2), 2) := by decide +kernel
theorem dX4_count_264 : decode cX4_count 264 = .ok (.ireturn, 1) := by decide +kernel
set_option maxRecDepth 20000 in
theorem ggX4_row_X4_isRow : GoodIn wsX4_row wsX4_isRow := goodIn_r _ [7] (by decide +kernel) (by decide +kernel)
set_option maxRecDepth 20000 in
theorem gX4_row_X4_isRow : GoodIn wsX4_row (va_wsS RX4 77 yX4_isRow wsX4_isRow) := goodIn_app (goodIn_of _ (by decide +kernel)) ggX4_row_X4_isRow
set_option maxRecDepth 20000 in
theorem ggX4_row_X3_show : GoodIn wsX4_row wsX3_show := goodIn_r _ [12, 13, 14, 15, 11, 16, 17, 18, 19, 20, 21, 22, 23, 24, 25, 26, 27, 6, 28, 29, 30, 31, 32, 33, 34, 35, 36, 37, 38, 39, 40, 41, 42, 43, 44, 45, 46, 47, 48, 49, 50, 51, 52, 53, 54, 55, 56, 57, 58, 59, 60, 61, 62, 63, 64, 65, 66, 67, 68, 69, 70, 71, 72, 73, 74, 75, 76, 77, 78, 79, 80, 81, 82, 83, 84, 85, 86, 87, 88, 89, 90, 91, 92, 93, 94, 95, 96, 97, 98, 99, 117, 118, 119, 120, 121, 107, 108, 109, 110, 111, 112, 113, 114, 115, 116] (by decide +kernel) (by decide +kernel)
set_option maxRecDepth 20000 in
theorem gX4_row_X3_show : GoodIn wsX4_row (wsV RX4 98 RX3 yX3_show wsX3_show) := goodIn_app (goodIn_of _ (by decide +kernel)) ggX4_row_X3_show
theorem dX4_row_0 : decode cX4_row 0 = .ok (.iload_n 1, 1) := by decide +kernel
theorem dX4_row_1 : decode cX4_row 1 = .ok (.invokestatic 77, 3) := by decide +kernel
theorem dX4_row_4 : decode cX4_row 4 = .ok (.ifCond .ne 5, 3) := by decide +kernel
theorem dX4_row_7 : decode cX4_row 7 = .ok (.iconst (-1), 1) := by decide +kernel
theorem dX4_row_8 : decode cX4_row 8 = .ok (.ireturn, 1) := by decide +kernel
theorem dX4_row_9 : decode cX4_row 9 = .ok (.iload_n 2, 1) := by decide +kernel
theorem dX4_row_10 : decode cX4_row 10 = .ok (.ifCond .lt 8, 3) := by decide +kernel
theorem dX4_row_13 : decode cX4_row 13 = .ok (.iload_n 2, 1) := by decide +kernel
theorem dX4_row_14 : decode cX4_row 14 = .ok (.iconst 5, 1) := by decide +kernel
theorem dX4_row_15 : decode cX4_row 15 = .ok (.if_icmp .lt 6, 3) := by decide +kernel
theorem dX4_row_18 : decode cX4_row 18 = .ok (.bipush (-2), 2) := by decide +kernel
theorem dX4_row_20 : decode cX4_row 20 = .ok (.ireturn, 1) := by decide +kernel
theorem dX4_row_21 : decode cX4_row 21 = .ok (.aload_n 0, 1) := by decide +kernel
theorem dX4_row_22 : decode cX4_row 22 = .ok (.getfield 22, 3) := by decide +kernel
theorem dX4_row_25 : decode cX4_row 25 = .ok (.aload_n 0, 1) := by decide +kernel
theorem dX4_row_26 : decode cX4_row 26 = .ok (.getfield 10, 3) := by decide +kernel
theorem dX4_row_29 : decode cX4_row 29 = .ok (.invokevirtual 98, 3) := by decide +kernel
theorem dX4_row_32 : decode cX4_row 32 = .ok (.iconst 0, 1) := by decide +kernel
theorem dX4_row_33 : decode cX4_row 33 = .ok (.istore_n 3, 1) := by decide +kernel
theorem dX4_row_34 : decode cX4_row 34 = .ok (.iconst 0, 1) := by decide +kernel
theorem dX4_row_35 : decode cX4_row 35 = .ok (.istore 4, 2) := by decide +kernel
theorem dX4_row_37 : decode cX4_row 37 = .ok (.iload 4, 2) := by decide +kernel
theorem dX4_row_39 : decode cX4_row 39 = .ok (.bipush 8, 2) := by decide +kernel
theorem dX4_row_41 : decode cX4_row 41 = .ok (.if_icmp .ge 35, 3) := by decide +kernel
theorem dX4_row_44 : decode cX4_row 44 = .ok (.aload_n 0, 1) := by decide +kernel
theorem dX4_row_45 : decode cX4_row 45 = .ok (.getfield 22, 3) := by decide +kernel
theorem dX4_row_48 : decode cX4_row 48 = .ok (.getfield 125, 3) := by decide +kernel
theorem dX4_row_51 : decode cX4_row 51 = .ok (.bipush 8, 2) := by decide +kernel
theorem dX4_row_53 : decode cX4_row 53 = .ok (.iload_n 1, 1) := by decide +kernel
theorem dX4_row_54 : decode cX4_row 54 = .ok (.imul, 1) := by decide +kernel
theorem dX4_row_55 : decode cX4_row 55 = .ok (.iload 4, 2) := by decide +kernel
theorem dX4_row_57 : decode cX4_row 57 = .ok (.iadd, 1) := by decide +kernel
theorem dX4_row_58 : decode cX4_row 58 = .ok (.iaload, 1) := by decide +kernel
theorem dX4_row_59 : decode cX4_row 59 = .ok (.iload_n 2, 1) := by decide +kernel
theorem dX4_row_60 : decode cX4_row 60 = .ok (.if_icmp .ne 10, 3) := by decide +kernel
theorem dX4_row_63 : decode cX4_row 63 = .ok (.iload_n 3, 1) := by decide +kernel
theorem dX4_row_64 : decode cX4_row 64 = .ok (.iconst 1, 1) := by decide +kernel
theorem dX4_row_65 : decode cX4_row 65 = .ok (.iload 4, 2) := by decide +kernel
theorem dX4_row_67 : decode cX4_row 67 = .ok (.ishl, 1) := by decide +kernel
theorem dX4_row_68 : decode cX4_row 68 = .ok (.ior, 1) := by decide +kernel
theorem dX4_row_69 : decode cX4_row 69 = .ok (.istore_n 3, 1) := by decide +kernel
theorem dX4_row_70 : decode cX4_row 70 = .ok (.iinc 4 1, 3) := by decide +kernel
theorem dX4_row_73 : decode cX4_row 73 = .ok (.goto (-36), 3) := by decide +kernel
theorem dX4_row_76 : decode cX4_row 76 = .ok (.iload_n 3, 1) := by decide +kernel
theorem dX4_row_77 : decode cX4_row 77 = .ok (.ireturn, 1) := by decide +kernel
set_option maxRecDepth 20000 in
theorem ggX4_bestScreen_X2_copyFrom : GoodIn wsX4_bestScreen wsX2_copyFrom := goodIn_r _ [10, 11, 12, 13, 14, 15, 16, 17, 18, 19, 81, 82, 83, 84, 85] (by decide +kernel) (by decide +kernel)
set_option maxRecDepth 20000 in
theorem gX4_bestScreen_X2_copyFrom : GoodIn wsX4_bestScreen (wsV RX4 153 RX2 yX2_copyFrom wsX2_copyFrom) := goodIn_app (goodIn_of _ (by decide +kernel)) ggX4_bestScreen_X2_copyFrom
set_option maxRecDepth 20000 in
theorem ggX4_bestScreen_X3_clearPixels : GoodIn wsX4_bestScreen wsX3_clearPixels := goodIn_r _ [24, 25, 26, 27, 28, 29, 23, 30, 31, 32, 33, 34, 35, 9, 36, 16, 19, 37, 38, 39, 40, 41, 42, 43, 44, 45, 46, 47, 48, 49, 50, 51, 52, 53, 54, 55, 56, 57, 58, 59, 60, 61, 62, 63, 64, 65, 66, 67, 68, 69, 70, 71, 72, 73, 86, 87, 88, 89, 90, 91, 92, 93, 94, 95, 81, 82, 83, 84, 85] (by decide +kernel) (by decide +kernel)
set_option maxRecDepth 20000 in
theorem gX4_bestScreen_X3_clearPixels : GoodIn wsX4_bestScreen (wsV RX4 156 RX3 yX3_clearPixels wsX3_clearPixels) := goodIn_app (goodIn_of _ (by decide +kernel)) ggX4_bestScreen_X3_clearPixels
theorem dX4_bestScreen_0 : decode cX4_bestScreen 0 = .ok (.iload_n 1, 1) := by decide +kernel
theorem dX4_bestScreen_1 : decode cX4_bestScreen 1 = .ok (.ifCond .eq 11, 3) := by decide +kernel
theorem dX4_bestScreen_4 : decode cX4_bestScreen 4 = .ok (.iload_n 1, 1) := by decide +kernel
theorem dX4_bestScreen_5 : decode cX4_bestScreen 5 = .ok (.iconst 1, 1) := by decide +kernel
theorem dX4_bestScreen_6 : decode cX4_bestScreen 6 = .ok (.if_icmp .eq 6, 3) := by decide +kernel
theorem dX4_bestScreen_9 : decode cX4_bestScreen 9 = .ok (.bipush (-2), 2) := by decide +kernel
theorem dX4_bestScreen_11 : decode cX4_bestScreen 11 = .ok (.ireturn, 1) := by decide +kernel
theorem dX4_bestScreen_12 : decode cX4_bestScreen 12 = .ok (.aload_n 0, 1) := by decide +kernel
theorem dX4_bestScreen_13 : decode cX4_bestScreen 13 = .ok (.getfield 16, 3) := by decide +kernel
theorem dX4_bestScreen_16 : decode cX4_bestScreen 16 = .ok (.aload_n 0, 1) := by decide +kernel
theorem dX4_bestScreen_17 : decode cX4_bestScreen 17 = .ok (.getfield 10, 3) := by decide +kernel
theorem dX4_bestScreen_20 : decode cX4_bestScreen 20 = .ok (.invokevirtual 153, 3) := by decide +kernel
theorem dX4_bestScreen_23 : decode cX4_bestScreen 23 = .ok (.iconst 0, 1) := by decide +kernel
theorem dX4_bestScreen_24 : decode cX4_bestScreen 24 = .ok (.istore_n 2, 1) := by decide +kernel
theorem dX4_bestScreen_25 : decode cX4_bestScreen 25 = .ok (.iconst (-1), 1) := by decide +kernel
theorem dX4_bestScreen_26 : decode cX4_bestScreen 26 = .ok (.istore_n 3, 1) := by decide +kernel
theorem dX4_bestScreen_27 : decode cX4_bestScreen 27 = .ok (.iconst 0, 1) := by decide +kernel
theorem dX4_bestScreen_28 : decode cX4_bestScreen 28 = .ok (.istore 4, 2) := by decide +kernel
theorem dX4_bestScreen_30 : decode cX4_bestScreen 30 = .ok (.iload 4, 2) := by decide +kernel
theorem dX4_bestScreen_32 : decode cX4_bestScreen 32 = .ok (.bipush 48, 2) := by decide +kernel
theorem dX4_bestScreen_34 : decode cX4_bestScreen 34 = .ok (.if_icmp .ge 51, 3) := by decide +kernel
theorem dX4_bestScreen_37 : decode cX4_bestScreen 37 = .ok (.aload_n 0, 1) := by decide +kernel
theorem dX4_bestScreen_38 : decode cX4_bestScreen 38 = .ok (.getfield 16, 3) := by decide +kernel
theorem dX4_bestScreen_41 : decode cX4_bestScreen 41 = .ok (.aload_n 0, 1) := by decide +kernel
theorem dX4_bestScreen_42 : decode cX4_bestScreen 42 = .ok (.getfield 10, 3) := by decide +kernel
theorem dX4_bestScreen_45 : decode cX4_bestScreen 45 = .ok (.getfield 105, 3) := by decide +kernel
theorem dX4_bestScreen_48 : decode cX4_bestScreen 48 = .ok (.iload 4, 2) := by decide +kernel
theorem dX4_bestScreen_50 : decode cX4_bestScreen 50 = .ok (.iaload, 1) := by decide +kernel
theorem dX4_bestScreen_51 : decode cX4_bestScreen 51 = .ok (.putfield 62, 3) := by decide +kernel
theorem dX4_bestScreen_54 : decode cX4_bestScreen 54 = .ok (.aload_n 0, 1) := by decide +kernel
theorem dX4_bestScreen_55 : decode cX4_bestScreen 55 = .ok (.getfield 26, 3) := by decide +kernel
theorem dX4_bestScreen_58 : decode cX4_bestScreen 58 = .ok (.aload_n 0, 1) := by decide +kernel
theorem dX4_bestScreen_59 : decode cX4_bestScreen 59 = .ok (.getfield 16, 3) := by decide +kernel
theorem dX4_bestScreen_62 : decode cX4_bestScreen 62 = .ok (.invokevirtual 156, 3) := by decide +kernel
theorem dX4_bestScreen_65 : decode cX4_bestScreen 65 = .ok (.istore 5, 2) := by decide +kernel
theorem dX4_bestScreen_67 : decode cX4_bestScreen 67 = .ok (.iload 5, 2) := by decide +kernel
theorem dX4_bestScreen_69 : decode cX4_bestScreen 69 = .ok (.iload_n 3, 1) := by decide +kernel
theorem dX4_bestScreen_70 : decode cX4_bestScreen 70 = .ok (.if_icmp .le 9, 3) := by decide +kernel
theorem dX4_bestScreen_73 : decode cX4_bestScreen 73 = .ok (.iload 4, 2) := by decide +kernel
theorem dX4_bestScreen_75 : decode cX4_bestScreen 75 = .ok (.istore_n 2, 1) := by decide +kernel
theorem dX4_bestScreen_76 : decode cX4_bestScreen 76 = .ok (.iload 5, 2) := by decide +kernel
theorem dX4_bestScreen_78 : decode cX4_bestScreen 78 = .ok (.istore_n 3, 1) := by decide +kernel
theorem dX4_bestScreen_79 : decode cX4_bestScreen 79 = .ok (.iinc 4 1, 3) := by decide +kernel
theorem dX4_bestScreen_82 : decode cX4_bestScreen 82 = .ok (.goto (-52), 3) := by decide +kernel
theorem dX4_bestScreen_85 : decode cX4_bestScreen 85 = .ok (.iload_n 1, 1) := by decide +kernel
theorem dX4_bestScreen_86 : decode cX4_bestScreen 86 = .ok (.ifCond .ne 7, 3) := by decide +kernel
theorem dX4_bestScreen_89 : decode cX4_bestScreen 89 = .ok (.iload_n 2, 1) := by decide +kernel
theorem dX4_bestScreen_90 : decode cX4_bestScreen 90 = .ok (.goto 4, 3) := by decide +kernel
theorem dX4_bestScreen_93 : decode cX4_bestScreen 93 = .ok (.iload_n 3, 1) := by decide +kernel
theorem dX4_bestScreen_94 : decode cX4_bestScreen 94 = .ok (.ireturn, 1) := by decide +kernel
set_option maxRecDepth 20000 in
theorem ggX4_leastNear_X4_isPixel : GoodIn wsX4_leastNear wsX4_isPixel := goodIn_r _ [6] (by decide +kernel) (by decide +kernel)
set_option maxRecDepth 20000 in
theorem gX4_leastNear_X4_isPixel : GoodIn wsX4_leastNear (va_wsS RX4 66 yX4_isPixel wsX4_isPixel) := goodIn_app (goodIn_of _ (by decide +kernel)) ggX4_leastNear_X4_isPixel
set_option maxRecDepth 20000 in
theorem ggX4_leastNear_X2_distanceOf : GoodIn wsX4_leastNear wsX2_distanceOf := goodIn_r _ [11, 12, 13, 4, 5, 6, 14, 15, 16, 17, 18, 19, 20, 21, 22, 23, 24, 25, 33, 34, 35, 36, 37] (by decide +kernel) (by decide +kernel)
set_option maxRecDepth 20000 in
theorem gX4_leastNear_X2_distanceOf : GoodIn wsX4_leastNear (wsV RX4 115 RX2 yX2_distanceOf wsX2_distanceOf) := goodIn_app (goodIn_of _ (by decide +kernel)) ggX4_leastNear_X2_distanceOf
theorem dX4_leastNear_0 : decode cX4_leastNear 0 = .ok (.iload_n 1, 1) := by decide +kernel
theorem dX4_leastNear_1 : decode cX4_leastNear 1 = .ok (.invokestatic 66, 3) := by decide +kernel
theorem dX4_leastNear_4 : decode cX4_leastNear 4 = .ok (.ifCond .ne 5, 3) := by decide +kernel
theorem dX4_leastNear_7 : decode cX4_leastNear 7 = .ok (.iconst (-1), 1) := by decide +kernel
theorem dX4_leastNear_8 : decode cX4_leastNear 8 = .ok (.ireturn, 1) := by decide +kernel
theorem dX4_leastNear_9 : decode cX4_leastNear 9 = .ok (.aload_n 0, 1) := by decide +kernel
theorem dX4_leastNear_10 : decode cX4_leastNear 10 = .ok (.getfield 10, 3) := by decide +kernel
theorem dX4_leastNear_13 : decode cX4_leastNear 13 = .ok (.iload_n 1, 1) := by decide +kernel
theorem dX4_leastNear_14 : decode cX4_leastNear 14 = .ok (.invokevirtual 115, 3) := by decide +kernel
theorem dX4_leastNear_17 : decode cX4_leastNear 17 = .ok (.istore_n 2, 1) := by decide +kernel
theorem dX4_leastNear_18 : decode cX4_leastNear 18 = .ok (.iload_n 2, 1) := by decide +kernel
theorem dX4_leastNear_19 : decode cX4_leastNear 19 = .ok (.aload_n 0, 1) := by decide +kernel
theorem dX4_leastNear_20 : decode cX4_leastNear 20 = .ok (.getfield 10, 3) := by decide +kernel
theorem dX4_leastNear_23 : decode cX4_leastNear 23 = .ok (.getfield 137, 3) := by decide +kernel
theorem dX4_leastNear_26 : decode cX4_leastNear 26 = .ok (.iconst 1, 1) := by decide +kernel
theorem dX4_leastNear_27 : decode cX4_leastNear 27 = .ok (.iaload, 1) := by decide +kernel
theorem dX4_leastNear_28 : decode cX4_leastNear 28 = .ok (.if_icmp .ge 7, 3) := by decide +kernel
theorem dX4_leastNear_31 : decode cX4_leastNear 31 = .ok (.iload_n 2, 1) := by decide +kernel
theorem dX4_leastNear_32 : decode cX4_leastNear 32 = .ok (.goto 5, 3) := by decide +kernel
theorem dX4_leastNear_35 : decode cX4_leastNear 35 = .ok (.bipush (-6), 2) := by decide +kernel
theorem dX4_leastNear_37 : decode cX4_leastNear 37 = .ok (.ireturn, 1) := by decide +kernel
set_option maxRecDepth 20000 in
theorem ggX4_ifSet_X4_errorOfSetting : GoodIn wsX4_ifSet wsX4_errorOfSetting := goodIn_r _ [10, 11, 2, 12, 13, 14, 9, 15, 126, 127, 128, 129, 130, 131, 132, 143, 144, 145, 146, 147] (by decide +kernel) (by decide +kernel)
set_option maxRecDepth 20000 in
theorem gX4_ifSet_X4_errorOfSetting : GoodIn wsX4_ifSet (wsV RX4 47 RX4 yX4_errorOfSetting wsX4_errorOfSetting) := goodIn_app (goodIn_of _ (by decide +kernel)) ggX4_ifSet_X4_errorOfSetting
set_option maxRecDepth 20000 in
theorem ggX4_ifSet_X2_copyFrom : GoodIn wsX4_ifSet wsX2_copyFrom := goodIn_r _ [20, 21, 22, 23, 24, 25, 26, 27, 28, 29, 143, 144, 145, 146, 147] (by decide +kernel) (by decide +kernel)
set_option maxRecDepth 20000 in
theorem gX4_ifSet_X2_copyFrom : GoodIn wsX4_ifSet (wsV RX4 153 RX2 yX2_copyFrom wsX2_copyFrom) := goodIn_app (goodIn_of _ (by decide +kernel)) ggX4_ifSet_X2_copyFrom
set_option maxRecDepth 20000 in
theorem ggX4_ifSet_X2_changeSetting : GoodIn wsX4_ifSet wsX2_changeSetting := goodIn_r _ [33, 21, 14, 9, 15, 143, 144, 145, 146, 147] (by decide +kernel) (by decide +kernel)
set_option maxRecDepth 20000 in
theorem gX4_ifSet_X2_changeSetting : GoodIn wsX4_ifSet (wsV RX4 55 RX2 yX2_changeSetting wsX2_changeSetting) := goodIn_app (goodIn_of _ (by decide +kernel)) ggX4_ifSet_X2_changeSetting
set_option maxRecDepth 20000 in
theorem ggX4_ifSet_X3_show : GoodIn wsX4_ifSet wsX3_show := goodIn_r _ [38, 39, 40, 41, 37, 42, 43, 44, 45, 46, 47, 48, 19, 49, 26, 29, 50, 9, 51, 52, 53, 54, 55, 56, 57, 58, 59, 60, 61, 62, 63, 64, 65, 66, 67, 68, 69, 70, 71, 72, 73, 74, 75, 76, 77, 78, 79, 80, 81, 82, 83, 84, 85, 86, 87, 88, 89, 90, 91, 92, 93, 94, 95, 96, 97, 98, 99, 100, 101, 102, 103, 104, 105, 106, 107, 108, 109, 110, 111, 112, 113, 114, 115, 116, 117, 118, 119, 120, 121, 122, 143, 144, 145, 146, 147, 133, 134, 135, 136, 137, 138, 139, 140, 141, 142] (by decide +kernel) (by decide +kernel)
set_option maxRecDepth 20000 in
theorem gX4_ifSet_X3_show : GoodIn wsX4_ifSet (wsV RX4 98 RX3 yX3_show wsX3_show) := goodIn_app (goodIn_of _ (by decide +kernel)) ggX4_ifSet_X3_show
set_option maxRecDepth 20000 in
theorem ggX4_ifSet_X4_sameColours : GoodIn wsX4_ifSet wsX4_sameColours := goodIn_r _ [125] (by decide +kernel) (by decide +kernel)
set_option maxRecDepth 20000 in
theorem gX4_ifSet_X4_sameColours : GoodIn wsX4_ifSet (va_wsS RX4 108 yX4_sameColours wsX4_sameColours) := goodIn_app (goodIn_of _ (by decide +kernel)) ggX4_ifSet_X4_sameColours
theorem dX4_ifSet_0 : decode cX4_ifSet 0 = .ok (.aload_n 0, 1) := by decide +kernel
theorem dX4_ifSet_1 : decode cX4_ifSet 1 = .ok (.iload_n 1, 1) := by decide +kernel
theorem dX4_ifSet_2 : decode cX4_ifSet 2 = .ok (.iload_n 2, 1) := by decide +kernel
theorem dX4_ifSet_3 : decode cX4_ifSet 3 = .ok (.invokevirtual 47, 3) := by decide +kernel
theorem dX4_ifSet_6 : decode cX4_ifSet 6 = .ok (.istore_n 3, 1) := by decide +kernel
theorem dX4_ifSet_7 : decode cX4_ifSet 7 = .ok (.iload_n 3, 1) := by decide +kernel
theorem dX4_ifSet_8 : decode cX4_ifSet 8 = .ok (.ifCond .eq 5, 3) := by decide +kernel
theorem dX4_ifSet_11 : decode cX4_ifSet 11 = .ok (.iload_n 3, 1) := by decide +kernel
theorem dX4_ifSet_12 : decode cX4_ifSet 12 = .ok (.ireturn, 1) := by decide +kernel
theorem dX4_ifSet_13 : decode cX4_ifSet 13 = .ok (.aload_n 0, 1) := by decide +kernel
theorem dX4_ifSet_14 : decode cX4_ifSet 14 = .ok (.getfield 16, 3) := by decide +kernel
theorem dX4_ifSet_17 : decode cX4_ifSet 17 = .ok (.aload_n 0, 1) := by decide +kernel
theorem dX4_ifSet_18 : decode cX4_ifSet 18 = .ok (.getfield 10, 3) := by decide +kernel
theorem dX4_ifSet_21 : decode cX4_ifSet 21 = .ok (.invokevirtual 153, 3) := by decide +kernel
theorem dX4_ifSet_24 : decode cX4_ifSet 24 = .ok (.aload_n 0, 1) := by decide +kernel
theorem dX4_ifSet_25 : decode cX4_ifSet 25 = .ok (.getfield 16, 3) := by decide +kernel
theorem dX4_ifSet_28 : decode cX4_ifSet 28 = .ok (.iload_n 1, 1) := by decide +kernel
theorem dX4_ifSet_29 : decode cX4_ifSet 29 = .ok (.iload_n 2, 1) := by decide +kernel
theorem dX4_ifSet_30 : decode cX4_ifSet 30 = .ok (.invokevirtual 55, 3) := by decide +kernel
theorem dX4_ifSet_33 : decode cX4_ifSet 33 = .ok (.pop, 1) := by decide +kernel
theorem dX4_ifSet_34 : decode cX4_ifSet 34 = .ok (.aload_n 0, 1) := by decide +kernel
theorem dX4_ifSet_35 : decode cX4_ifSet 35 = .ok (.getfield 22, 3) := by decide +kernel
theorem dX4_ifSet_38 : decode cX4_ifSet 38 = .ok (.aload_n 0, 1) := by decide +kernel
theorem dX4_ifSet_39 : decode cX4_ifSet 39 = .ok (.getfield 10, 3) := by decide +kernel
theorem dX4_ifSet_42 : decode cX4_ifSet 42 = .ok (.invokevirtual 98, 3) := by decide +kernel
theorem dX4_ifSet_45 : decode cX4_ifSet 45 = .ok (.aload_n 0, 1) := by decide +kernel
theorem dX4_ifSet_46 : decode cX4_ifSet 46 = .ok (.getfield 26, 3) := by decide +kernel
theorem dX4_ifSet_49 : decode cX4_ifSet 49 = .ok (.aload_n 0, 1) := by decide +kernel
theorem dX4_ifSet_50 : decode cX4_ifSet 50 = .ok (.getfield 16, 3) := by decide +kernel
theorem dX4_ifSet_53 : decode cX4_ifSet 53 = .ok (.invokevirtual 98, 3) := by decide +kernel
theorem dX4_ifSet_56 : decode cX4_ifSet 56 = .ok (.bipush 48, 2) := by decide +kernel
theorem dX4_ifSet_58 : decode cX4_ifSet 58 = .ok (.aload_n 0, 1) := by decide +kernel
theorem dX4_ifSet_59 : decode cX4_ifSet 59 = .ok (.getfield 22, 3) := by decide +kernel
theorem dX4_ifSet_62 : decode cX4_ifSet 62 = .ok (.getfield 101, 3) := by decide +kernel
theorem dX4_ifSet_65 : decode cX4_ifSet 65 = .ok (.aload_n 0, 1) := by decide +kernel
theorem dX4_ifSet_66 : decode cX4_ifSet 66 = .ok (.getfield 26, 3) := by decide +kernel
theorem dX4_ifSet_69 : decode cX4_ifSet 69 = .ok (.getfield 101, 3) := by decide +kernel
theorem dX4_ifSet_72 : decode cX4_ifSet 72 = .ok (.invokestatic 108, 3) := by decide +kernel
theorem dX4_ifSet_75 : decode cX4_ifSet 75 = .ok (.isub, 1) := by decide +kernel
theorem dX4_ifSet_76 : decode cX4_ifSet 76 = .ok (.ireturn, 1) := by decide +kernel
set_option maxRecDepth 20000 in
theorem ggX4_bestShare_X2_copyFrom : GoodIn wsX4_bestShare wsX2_copyFrom := goodIn_r _ [8, 9, 10, 11, 12, 13, 14, 15, 16, 17, 125, 126, 127, 128, 129] (by decide +kernel) (by decide +kernel)
set_option maxRecDepth 20000 in
theorem gX4_bestShare_X2_copyFrom : GoodIn wsX4_bestShare (wsV RX4 153 RX2 yX2_copyFrom wsX2_copyFrom) := goodIn_app (goodIn_of _ (by decide +kernel)) ggX4_bestShare_X2_copyFrom
set_option maxRecDepth 20000 in
theorem ggX4_bestShare_X2_changeSetting : GoodIn wsX4_bestShare wsX2_changeSetting := goodIn_r _ [21, 9, 22, 23, 24, 125, 126, 127, 128, 129] (by decide +kernel) (by decide +kernel)
set_option maxRecDepth 20000 in
theorem gX4_bestShare_X2_changeSetting : GoodIn wsX4_bestShare (wsV RX4 55 RX2 yX2_changeSetting wsX2_changeSetting) := goodIn_app (goodIn_of _ (by decide +kernel)) ggX4_bestShare_X2_changeSetting
set_option maxRecDepth 20000 in
theorem ggX4_bestShare_X3_show : GoodIn wsX4_bestShare wsX3_show := goodIn_r _ [29, 30, 31, 32, 28, 33, 34, 35, 36, 37, 38, 39, 7, 40, 14, 17, 41, 23, 42, 43, 44, 45, 46, 47, 48, 49, 50, 51, 52, 53, 54, 55, 56, 57, 58, 59, 60, 61, 62, 63, 64, 65, 66, 67, 68, 69, 70, 71, 72, 73, 74, 75, 76, 77, 78, 79, 80, 81, 82, 83, 84, 85, 86, 87, 88, 89, 90, 91, 92, 93, 94, 95, 96, 97, 98, 99, 100, 101, 102, 103, 104, 105, 106, 107, 108, 109, 110, 111, 112, 113, 125, 126, 127, 128, 129, 130, 131, 132, 133, 134, 135, 136, 137, 138, 139] (by decide +kernel) (by decide +kernel)
set_option maxRecDepth 20000 in
theorem gX4_bestShare_X3_show : GoodIn wsX4_bestShare (wsV RX4 98 RX3 yX3_show wsX3_show) := goodIn_app (goodIn_of _ (by decide +kernel)) ggX4_bestShare_X3_show
set_option maxRecDepth 20000 in
theorem ggX4_bestShare_X3_spillLeft : GoodIn wsX4_bestShare wsX3_spillLeft := goodIn_r _ [117, 95, 100, 102, 23, 103, 49, 50, 51, 52, 53, 54, 104, 105, 106, 107, 47, 108, 125, 126, 127, 128, 129, 130, 131, 132, 133, 134, 135, 136, 137, 138, 139] (by decide +kernel) (by decide +kernel)
set_option maxRecDepth 20000 in
theorem gX4_bestShare_X3_spillLeft : GoodIn wsX4_bestShare (wsV RX4 160 RX3 yX3_spillLeft wsX3_spillLeft) := goodIn_app (goodIn_of _ (by decide +kernel)) ggX4_bestShare_X3_spillLeft
theorem dX4_bestShare_0 : decode cX4_bestShare 0 = .ok (.iload_n 1, 1) := by decide +kernel
theorem dX4_bestShare_1 : decode cX4_bestShare 1 = .ok (.iconst 2, 1) := by decide +kernel
theorem dX4_bestShare_2 : decode cX4_bestShare 2 = .ok (.if_icmp .eq 13, 3) := by decide +kernel
theorem dX4_bestShare_5 : decode cX4_bestShare 5 = .ok (.iload_n 1, 1) := by decide +kernel
theorem dX4_bestShare_6 : decode cX4_bestShare 6 = .ok (.iconst 3, 1) := by decide +kernel
theorem dX4_bestShare_7 : decode cX4_bestShare 7 = .ok (.if_icmp .eq 8, 3) := by decide +kernel
theorem dX4_bestShare_10 : decode cX4_bestShare 10 = .ok (.iload_n 1, 1) := by decide +kernel
theorem dX4_bestShare_11 : decode cX4_bestShare 11 = .ok (.iconst 4, 1) := by decide +kernel
theorem dX4_bestShare_12 : decode cX4_bestShare 12 = .ok (.if_icmp .ne 7, 3) := by decide +kernel
theorem dX4_bestShare_15 : decode cX4_bestShare 15 = .ok (.iconst 1, 1) := by decide +kernel
theorem dX4_bestShare_16 : decode cX4_bestShare 16 = .ok (.goto 4, 3) := by decide +kernel
theorem dX4_bestShare_19 : decode cX4_bestShare 19 = .ok (.iconst 0, 1) := by decide +kernel
theorem dX4_bestShare_20 : decode cX4_bestShare 20 = .ok (.istore_n 3, 1) := by decide +kernel
theorem dX4_bestShare_21 : decode cX4_bestShare 21 = .ok (.iload_n 3, 1) := by decide +kernel
theorem dX4_bestShare_22 : decode cX4_bestShare 22 = .ok (.ifCond .eq 12, 3) := by decide +kernel
theorem dX4_bestShare_25 : decode cX4_bestShare 25 = .ok (.iload_n 2, 1) := by decide +kernel
theorem dX4_bestShare_26 : decode cX4_bestShare 26 = .ok (.ifCond .eq 11, 3) := by decide +kernel
theorem dX4_bestShare_29 : decode cX4_bestShare 29 = .ok (.iload_n 2, 1) := by decide +kernel
theorem dX4_bestShare_30 : decode cX4_bestShare 30 = .ok (.iconst 1, 1) := by decide +kernel
theorem dX4_bestShare_31 : decode cX4_bestShare 31 = .ok (.if_icmp .eq 6, 3) := by decide +kernel
theorem dX4_bestShare_34 : decode cX4_bestShare 34 = .ok (.bipush (-2), 2) := by decide +kernel
theorem dX4_bestShare_36 : decode cX4_bestShare 36 = .ok (.ireturn, 1) := by decide +kernel
theorem dX4_bestShare_37 : decode cX4_bestShare 37 = .ok (.aload_n 0, 1) := by decide +kernel
theorem dX4_bestShare_38 : decode cX4_bestShare 38 = .ok (.getfield 16, 3) := by decide +kernel
theorem dX4_bestShare_41 : decode cX4_bestShare 41 = .ok (.aload_n 0, 1) := by decide +kernel
theorem dX4_bestShare_42 : decode cX4_bestShare 42 = .ok (.getfield 10, 3) := by decide +kernel
theorem dX4_bestShare_45 : decode cX4_bestShare 45 = .ok (.invokevirtual 153, 3) := by decide +kernel
theorem dX4_bestShare_48 : decode cX4_bestShare 48 = .ok (.iconst 0, 1) := by decide +kernel
theorem dX4_bestShare_49 : decode cX4_bestShare 49 = .ok (.istore 4, 2) := by decide +kernel
theorem dX4_bestShare_51 : decode cX4_bestShare 51 = .ok (.iconst 0, 1) := by decide +kernel
theorem dX4_bestShare_52 : decode cX4_bestShare 52 = .ok (.istore 5, 2) := by decide +kernel
theorem dX4_bestShare_54 : decode cX4_bestShare 54 = .ok (.iconst 0, 1) := by decide +kernel
theorem dX4_bestShare_55 : decode cX4_bestShare 55 = .ok (.istore 6, 2) := by decide +kernel
theorem dX4_bestShare_57 : decode cX4_bestShare 57 = .ok (.iload 6, 2) := by decide +kernel
theorem dX4_bestShare_59 : decode cX4_bestShare 59 = .ok (.bipush 16, 2) := by decide +kernel
theorem dX4_bestShare_61 : decode cX4_bestShare 61 = .ok (.if_icmp .gt 64, 3) := by decide +kernel
theorem dX4_bestShare_64 : decode cX4_bestShare 64 = .ok (.aload_n 0, 1) := by decide +kernel
theorem dX4_bestShare_65 : decode cX4_bestShare 65 = .ok (.getfield 16, 3) := by decide +kernel
theorem dX4_bestShare_68 : decode cX4_bestShare 68 = .ok (.iload_n 1, 1) := by decide +kernel
theorem dX4_bestShare_69 : decode cX4_bestShare 69 = .ok (.iload 6, 2) := by decide +kernel
theorem dX4_bestShare_71 : decode cX4_bestShare 71 = .ok (.invokevirtual 55, 3) := by decide +kernel
theorem dX4_bestShare_74 : decode cX4_bestShare 74 = .ok (.pop, 1) := by decide +kernel
theorem dX4_bestShare_75 : decode cX4_bestShare 75 = .ok (.aload_n 0, 1) := by decide +kernel
theorem dX4_bestShare_76 : decode cX4_bestShare 76 = .ok (.getfield 26, 3) := by decide +kernel
theorem dX4_bestShare_79 : decode cX4_bestShare 79 = .ok (.aload_n 0, 1) := by decide +kernel
theorem dX4_bestShare_80 : decode cX4_bestShare 80 = .ok (.getfield 16, 3) := by decide +kernel
theorem dX4_bestShare_83 : decode cX4_bestShare 83 = .ok (.invokevirtual 98, 3) := by decide +kernel
theorem dX4_bestShare_86 : decode cX4_bestShare 86 = .ok (.aload_n 0, 1) := by decide +kernel
theorem dX4_bestShare_87 : decode cX4_bestShare 87 = .ok (.getfield 26, 3) := by decide +kernel
theorem dX4_bestShare_90 : decode cX4_bestShare 90 = .ok (.aload_n 0, 1) := by decide +kernel
theorem dX4_bestShare_91 : decode cX4_bestShare 91 = .ok (.getfield 16, 3) := by decide +kernel
theorem dX4_bestShare_94 : decode cX4_bestShare 94 = .ok (.invokevirtual 160, 3) := by decide +kernel
theorem dX4_bestShare_97 : decode cX4_bestShare 97 = .ok (.istore 7, 2) := by decide +kernel
theorem dX4_bestShare_99 : decode cX4_bestShare 99 = .ok (.iload 6, 2) := by decide +kernel
theorem dX4_bestShare_101 : decode cX4_bestShare 101 = .ok (.ifCond .eq 10, 3) := by decide +kernel
theorem dX4_bestShare_104 : decode cX4_bestShare 104 = .ok (.iload 7, 2) := by decide +kernel
theorem dX4_bestShare_106 : decode cX4_bestShare 106 = .ok (.iload 5, 2) := by decide +kernel
theorem dX4_bestShare_108 : decode cX4_bestShare 108 = .ok (.if_icmp .ge 11, 3) := by decide +kernel
theorem dX4_bestShare_111 : decode cX4_bestShare 111 = .ok (.iload 6, 2) := by decide +kernel
theorem dX4_bestShare_113 : decode cX4_bestShare 113 = .ok (.istore 4, 2) := by decide +kernel
theorem dX4_bestShare_115 : decode cX4_bestShare 115 = .ok (.iload 7, 2) := by decide +kernel
theorem dX4_bestShare_117 : decode cX4_bestShare 117 = .ok (.istore 5, 2) := by decide +kernel
theorem dX4_bestShare_119 : decode cX4_bestShare 119 = .ok (.iinc 6 1, 3) := by decide +kernel
theorem dX4_bestShare_122 : decode cX4_bestShare 122 = .ok (.goto (-65), 3) := by decide +kernel
theorem dX4_bestShare_125 : decode cX4_bestShare 125 = .ok (.iload_n 2, 1) := by decide +kernel
theorem dX4_bestShare_126 : decode cX4_bestShare 126 = .ok (.ifCond .ne 8, 3) := by decide +kernel
theorem dX4_bestShare_129 : decode cX4_bestShare 129 = .ok (.iload 4, 2) := by decide +kernel
theorem dX4_bestShare_131 : decode cX4_bestShare 131 = .ok (.goto 5, 3) := by decide +kernel
theorem dX4_bestShare_134 : decode cX4_bestShare 134 = .ok (.iload 5, 2) := by decide +kernel
theorem dX4_bestShare_136 : decode cX4_bestShare 136 = .ok (.ireturn, 1) := by decide +kernel
set_option maxRecDepth 20000 in
theorem ggX4_put_X4_charactersIn : GoodIn wsX4_put wsX4_charactersIn := goodIn_r _ [6, 7] (by decide +kernel) (by decide +kernel)
set_option maxRecDepth 20000 in
theorem gX4_put_X4_charactersIn : GoodIn wsX4_put (va_wsS RX4 163 yX4_charactersIn wsX4_charactersIn) := goodIn_app (goodIn_of _ (by decide +kernel)) ggX4_put_X4_charactersIn
set_option maxRecDepth 20000 in
theorem ggX4_put_X1_append : GoodIn wsX4_put wsX1_append := goodIn_r _ [12, 13, 14, 15, 23, 24] (by decide +kernel) (by decide +kernel)
set_option maxRecDepth 20000 in
theorem gX4_put_X1_append : GoodIn wsX4_put (wsV RX4 167 RX1 yX1_append wsX1_append) := goodIn_app (goodIn_of _ (by decide +kernel)) ggX4_put_X1_append
theorem dX4_put_0 : decode cX4_put 0 = .ok (.lload_n 1, 1) := by decide +kernel
theorem dX4_put_1 : decode cX4_put 1 = .ok (.invokestatic 163, 3) := by decide +kernel
theorem dX4_put_4 : decode cX4_put 4 = .ok (.istore_n 3, 1) := by decide +kernel
theorem dX4_put_5 : decode cX4_put 5 = .ok (.iload_n 3, 1) := by decide +kernel
theorem dX4_put_6 : decode cX4_put 6 = .ok (.ifCond .ne 6, 3) := by decide +kernel
theorem dX4_put_9 : decode cX4_put 9 = .ok (.bipush (-2), 2) := by decide +kernel
theorem dX4_put_11 : decode cX4_put 11 = .ok (.ireturn, 1) := by decide +kernel
theorem dX4_put_12 : decode cX4_put 12 = .ok (.aload_n 0, 1) := by decide +kernel
theorem dX4_put_13 : decode cX4_put 13 = .ok (.getfield 32, 3) := by decide +kernel
theorem dX4_put_16 : decode cX4_put 16 = .ok (.getfield 88, 3) := by decide +kernel
theorem dX4_put_19 : decode cX4_put 19 = .ok (.iload_n 3, 1) := by decide +kernel
theorem dX4_put_20 : decode cX4_put 20 = .ok (.iadd, 1) := by decide +kernel
theorem dX4_put_21 : decode cX4_put 21 = .ok (.bipush 48, 2) := by decide +kernel
theorem dX4_put_23 : decode cX4_put 23 = .ok (.if_icmp .le 6, 3) := by decide +kernel
theorem dX4_put_26 : decode cX4_put 26 = .ok (.bipush (-4), 2) := by decide +kernel
theorem dX4_put_28 : decode cX4_put 28 = .ok (.ireturn, 1) := by decide +kernel
theorem dX4_put_29 : decode cX4_put 29 = .ok (.aload_n 0, 1) := by decide +kernel
theorem dX4_put_30 : decode cX4_put 30 = .ok (.getfield 32, 3) := by decide +kernel
theorem dX4_put_33 : decode cX4_put 33 = .ok (.lload_n 1, 1) := by decide +kernel
theorem dX4_put_34 : decode cX4_put 34 = .ok (.iload_n 3, 1) := by decide +kernel
theorem dX4_put_35 : decode cX4_put 35 = .ok (.invokevirtual 167, 3) := by decide +kernel
theorem dX4_put_38 : decode cX4_put 38 = .ok (.aload_n 0, 1) := by decide +kernel
theorem dX4_put_39 : decode cX4_put 39 = .ok (.getfield 32, 3) := by decide +kernel
theorem dX4_put_42 : decode cX4_put 42 = .ok (.getfield 88, 3) := by decide +kernel
theorem dX4_put_45 : decode cX4_put 45 = .ok (.ireturn, 1) := by decide +kernel
theorem dX4_wipe_0 : decode cX4_wipe 0 = .ok (.aload_n 0, 1) := by decide +kernel
theorem dX4_wipe_1 : decode cX4_wipe 1 = .ok (.getfield 32, 3) := by decide +kernel
theorem dX4_wipe_4 : decode cX4_wipe 4 = .ok (.getfield 88, 3) := by decide +kernel
theorem dX4_wipe_7 : decode cX4_wipe 7 = .ok (.istore_n 1, 1) := by decide +kernel
theorem dX4_wipe_8 : decode cX4_wipe 8 = .ok (.aload_n 0, 1) := by decide +kernel
theorem dX4_wipe_9 : decode cX4_wipe 9 = .ok (.getfield 32, 3) := by decide +kernel
theorem dX4_wipe_12 : decode cX4_wipe 12 = .ok (.iconst 0, 1) := by decide +kernel
theorem dX4_wipe_13 : decode cX4_wipe 13 = .ok (.putfield 88, 3) := by decide +kernel
theorem dX4_wipe_16 : decode cX4_wipe 16 = .ok (.iload_n 1, 1) := by decide +kernel
theorem dX4_wipe_17 : decode cX4_wipe 17 = .ok (.ireturn, 1) := by decide +kernel
set_option maxRecDepth 20000 in
theorem ggX4_undo_X0_takeBack : GoodIn wsX4_undo wsX0_takeBack := goodIn_r _ [8, 9, 10, 11, 12, 13, 14, 15, 16, 17, 18, 19, 20, 21, 22, 23, 24, 25, 26, 27, 28, 29, 37, 38, 39, 40, 41, 42, 43, 44] (by decide +kernel) (by decide +kernel)
set_option maxRecDepth 20000 in
theorem gX4_undo_X0_takeBack : GoodIn wsX4_undo (wsV RX4 171 RX0 yX0_takeBack wsX0_takeBack) := goodIn_app (goodIn_of _ (by decide +kernel)) ggX4_undo_X0_takeBack
theorem dX4_undo_0 : decode cX4_undo 0 = .ok (.aload_n 0, 1) := by decide +kernel
theorem dX4_undo_1 : decode cX4_undo 1 = .ok (.getfield 39, 3) := by decide +kernel
theorem dX4_undo_4 : decode cX4_undo 4 = .ok (.getfield 150, 3) := by decide +kernel
theorem dX4_undo_7 : decode cX4_undo 7 = .ok (.ifCond .ne 6, 3) := by decide +kernel
theorem dX4_undo_10 : decode cX4_undo 10 = .ok (.bipush (-5), 2) := by decide +kernel
theorem dX4_undo_12 : decode cX4_undo 12 = .ok (.ireturn, 1) := by decide +kernel
theorem dX4_undo_13 : decode cX4_undo 13 = .ok (.aload_n 0, 1) := by decide +kernel
theorem dX4_undo_14 : decode cX4_undo 14 = .ok (.getfield 39, 3) := by decide +kernel
theorem dX4_undo_17 : decode cX4_undo 17 = .ok (.aload_n 0, 1) := by decide +kernel
theorem dX4_undo_18 : decode cX4_undo 18 = .ok (.getfield 10, 3) := by decide +kernel
theorem dX4_undo_21 : decode cX4_undo 21 = .ok (.invokevirtual 171, 3) := by decide +kernel
theorem dX4_undo_24 : decode cX4_undo 24 = .ok (.aload_n 0, 1) := by decide +kernel
theorem dX4_undo_25 : decode cX4_undo 25 = .ok (.getfield 39, 3) := by decide +kernel
theorem dX4_undo_28 : decode cX4_undo 28 = .ok (.getfield 150, 3) := by decide +kernel
theorem dX4_undo_31 : decode cX4_undo 31 = .ok (.ireturn, 1) := by decide +kernel
set_option maxRecDepth 20000 in
theorem ggX4_save_X4_isSlot : GoodIn wsX4_save wsX4_isSlot := goodIn_r _ [9] (by decide +kernel) (by decide +kernel)
set_option maxRecDepth 20000 in
theorem gX4_save_X4_isSlot : GoodIn wsX4_save (va_wsS RX4 174 yX4_isSlot wsX4_isSlot) := goodIn_app (goodIn_of _ (by decide +kernel)) ggX4_save_X4_isSlot
set_option maxRecDepth 20000 in
theorem ggX4_save_X2_init : GoodIn wsX4_save wsX2_init := goodIn_r _ [12, 13, 14, 15, 16, 17, 18, 19, 20, 21, 22, 23, 24, 25, 26, 42, 43, 44, 45, 46] (by decide +kernel) (by decide +kernel)
set_option maxRecDepth 20000 in
theorem gX4_save_X2_init : GoodIn wsX4_save (wsX2_init) := ggX4_save_X2_init
set_option maxRecDepth 20000 in
theorem ggX4_save_X2_copyFrom : GoodIn wsX4_save wsX2_copyFrom := goodIn_r _ [30, 17, 23, 24, 25, 26, 18, 19, 21, 22, 42, 43, 44, 45, 46] (by decide +kernel) (by decide +kernel)
set_option maxRecDepth 20000 in
theorem gX4_save_X2_copyFrom : GoodIn wsX4_save (wsV RX4 153 RX2 yX2_copyFrom wsX2_copyFrom) := goodIn_app (goodIn_of _ (by decide +kernel)) ggX4_save_X2_copyFrom
set_option maxRecDepth 20000 in
theorem ggX4_save_X2_marked : GoodIn wsX4_save wsX2_marked := goodIn_r _ [34, 21, 42, 43, 44, 45, 46] (by decide +kernel) (by decide +kernel)
set_option maxRecDepth 20000 in
theorem gX4_save_X2_marked : GoodIn wsX4_save (wsV RX4 95 RX2 yX2_marked wsX2_marked) := goodIn_app (goodIn_of _ (by decide +kernel)) ggX4_save_X2_marked
theorem dX4_save_0 : decode cX4_save 0 = .ok (.iload_n 1, 1) := by decide +kernel
theorem dX4_save_1 : decode cX4_save 1 = .ok (.invokestatic 174, 3) := by decide +kernel
theorem dX4_save_4 : decode cX4_save 4 = .ok (.ifCond .ne 6, 3) := by decide +kernel
theorem dX4_save_7 : decode cX4_save 7 = .ok (.bipush (-2), 2) := by decide +kernel
theorem dX4_save_9 : decode cX4_save 9 = .ok (.ireturn, 1) := by decide +kernel
theorem dX4_save_10 : decode cX4_save 10 = .ok (.aload_n 0, 1) := by decide +kernel
theorem dX4_save_11 : decode cX4_save 11 = .ok (.getfield 43, 3) := by decide +kernel
theorem dX4_save_14 : decode cX4_save 14 = .ok (.iload_n 1, 1) := by decide +kernel
theorem dX4_save_15 : decode cX4_save 15 = .ok (.aaload, 1) := by decide +kernel
theorem dX4_save_16 : decode cX4_save 16 = .ok (.astore_n 2, 1) := by decide +kernel
theorem dX4_save_17 : decode cX4_save 17 = .ok (.aload_n 2, 1) := by decide +kernel
theorem dX4_save_18 : decode cX4_save 18 = .ok (.ifnonnull 18, 3) := by decide +kernel
theorem dX4_save_21 : decode cX4_save 21 = .ok (.new 7, 3) := by decide +kernel
theorem dX4_save_24 : decode cX4_save 24 = .ok (.dup, 1) := by decide +kernel
theorem dX4_save_25 : decode cX4_save 25 = .ok (.invokespecial 9, 3) := by decide +kernel
theorem dX4_save_28 : decode cX4_save 28 = .ok (.astore_n 2, 1) := by decide +kernel
theorem dX4_save_29 : decode cX4_save 29 = .ok (.aload_n 0, 1) := by decide +kernel
theorem dX4_save_30 : decode cX4_save 30 = .ok (.getfield 43, 3) := by decide +kernel
theorem dX4_save_33 : decode cX4_save 33 = .ok (.iload_n 1, 1) := by decide +kernel
theorem dX4_save_34 : decode cX4_save 34 = .ok (.aload_n 2, 1) := by decide +kernel
theorem dX4_save_35 : decode cX4_save 35 = .ok (.aastore, 1) := by decide +kernel
theorem dX4_save_36 : decode cX4_save 36 = .ok (.aload_n 2, 1) := by decide +kernel
theorem dX4_save_37 : decode cX4_save 37 = .ok (.aload_n 0, 1) := by decide +kernel
theorem dX4_save_38 : decode cX4_save 38 = .ok (.getfield 10, 3) := by decide +kernel
theorem dX4_save_41 : decode cX4_save 41 = .ok (.invokevirtual 153, 3) := by decide +kernel
theorem dX4_save_44 : decode cX4_save 44 = .ok (.aload_n 0, 1) := by decide +kernel
theorem dX4_save_45 : decode cX4_save 45 = .ok (.getfield 10, 3) := by decide +kernel
theorem dX4_save_48 : decode cX4_save 48 = .ok (.invokevirtual 95, 3) := by decide +kernel
theorem dX4_save_51 : decode cX4_save 51 = .ok (.ireturn, 1) := by decide +kernel
set_option maxRecDepth 20000 in
theorem ggX4_restore_X4_isSlot : GoodIn wsX4_restore wsX4_isSlot := goodIn_r _ [7] (by decide +kernel) (by decide +kernel)
set_option maxRecDepth 20000 in
theorem gX4_restore_X4_isSlot : GoodIn wsX4_restore (va_wsS RX4 174 yX4_isSlot wsX4_isSlot) := goodIn_app (goodIn_of _ (by decide +kernel)) ggX4_restore_X4_isSlot
set_option maxRecDepth 20000 in
theorem ggX4_restore_X0_remember : GoodIn wsX4_restore wsX0_remember := goodIn_r _ [12, 13, 14, 15, 16, 17, 18, 19, 20, 21, 22, 23, 24, 25, 26, 27, 28, 29, 30, 31, 32, 33, 46, 47, 48, 49, 50, 51, 52, 53] (by decide +kernel) (by decide +kernel)
set_option maxRecDepth 20000 in
theorem gX4_restore_X0_remember : GoodIn wsX4_restore (wsV RX4 51 RX0 yX0_remember wsX0_remember) := goodIn_app (goodIn_of _ (by decide +kernel)) ggX4_restore_X0_remember
set_option maxRecDepth 20000 in
theorem ggX4_restore_X2_copyFrom : GoodIn wsX4_restore wsX2_copyFrom := goodIn_r _ [24, 25, 26, 27, 28, 29, 30, 31, 32, 33, 49, 50, 51, 52, 53] (by decide +kernel) (by decide +kernel)
set_option maxRecDepth 20000 in
theorem gX4_restore_X2_copyFrom : GoodIn wsX4_restore (wsV RX4 153 RX2 yX2_copyFrom wsX2_copyFrom) := goodIn_app (goodIn_of _ (by decide +kernel)) ggX4_restore_X2_copyFrom
set_option maxRecDepth 20000 in
theorem ggX4_restore_X2_marked : GoodIn wsX4_restore wsX2_marked := goodIn_r _ [38, 32, 49, 50, 51, 52, 53] (by decide +kernel) (by decide +kernel)
set_option maxRecDepth 20000 in
theorem gX4_restore_X2_marked : GoodIn wsX4_restore (wsV RX4 95 RX2 yX2_marked wsX2_marked) := goodIn_app (goodIn_of _ (by decide +kernel)) ggX4_restore_X2_marked
theorem dX4_restore_0 : decode cX4_restore 0 = .ok (.iload_n 1, 1) := by decide +kernel
theorem dX4_restore_1 : decode cX4_restore 1 = .ok (.invokestatic 174, 3) := by decide +kernel
theorem dX4_restore_4 : decode cX4_restore 4 = .ok (.ifCond .ne 6, 3) := by decide +kernel
theorem dX4_restore_7 : decode cX4_restore 7 = .ok (.bipush (-2), 2) := by decide +kernel
theorem dX4_restore_9 : decode cX4_restore 9 = .ok (.ireturn, 1) := by decide +kernel
theorem dX4_restore_10 : decode cX4_restore 10 = .ok (.aload_n 0, 1) := by decide +kernel
theorem dX4_restore_11 : decode cX4_restore 11 = .ok (.getfield 43, 3) := by decide +kernel
theorem dX4_restore_14 : decode cX4_restore 14 = .ok (.iload_n 1, 1) := by decide +kernel
theorem dX4_restore_15 : decode cX4_restore 15 = .ok (.aaload, 1) := by decide +kernel
theorem dX4_restore_16 : decode cX4_restore 16 = .ok (.astore_n 2, 1) := by decide +kernel
theorem dX4_restore_17 : decode cX4_restore 17 = .ok (.aload_n 2, 1) := by decide +kernel
theorem dX4_restore_18 : decode cX4_restore 18 = .ok (.ifnonnull 6, 3) := by decide +kernel
theorem dX4_restore_21 : decode cX4_restore 21 = .ok (.bipush (-5), 2) := by decide +kernel
theorem dX4_restore_23 : decode cX4_restore 23 = .ok (.ireturn, 1) := by decide +kernel
theorem dX4_restore_24 : decode cX4_restore 24 = .ok (.aload_n 0, 1) := by decide +kernel
theorem dX4_restore_25 : decode cX4_restore 25 = .ok (.getfield 39, 3) := by decide +kernel
theorem dX4_restore_28 : decode cX4_restore 28 = .ok (.aload_n 0, 1) := by decide +kernel
theorem dX4_restore_29 : decode cX4_restore 29 = .ok (.getfield 10, 3) := by decide +kernel
theorem dX4_restore_32 : decode cX4_restore 32 = .ok (.invokevirtual 51, 3) := by decide +kernel
theorem dX4_restore_35 : decode cX4_restore 35 = .ok (.aload_n 0, 1) := by decide +kernel
theorem dX4_restore_36 : decode cX4_restore 36 = .ok (.getfield 10, 3) := by decide +kernel
theorem dX4_restore_39 : decode cX4_restore 39 = .ok (.aload_n 2, 1) := by decide +kernel
theorem dX4_restore_40 : decode cX4_restore 40 = .ok (.invokevirtual 153, 3) := by decide +kernel
theorem dX4_restore_43 : decode cX4_restore 43 = .ok (.aload_n 0, 1) := by decide +kernel
theorem dX4_restore_44 : decode cX4_restore 44 = .ok (.getfield 10, 3) := by decide +kernel
theorem dX4_restore_47 : decode cX4_restore 47 = .ok (.invokevirtual 95, 3) := by decide +kernel
theorem dX4_restore_50 : decode cX4_restore 50 = .ok (.ireturn, 1) := by decide +kernel
theorem dX4_isPixel_0 : decode cX4_isPixel 0 = .ok (.iload_n 0, 1) := by decide +kernel
theorem dX4_isPixel_1 : decode cX4_isPixel 1 = .ok (.ifCond .lt 13, 3) := by decide +kernel
theorem dX4_isPixel_4 : decode cX4_isPixel 4 = .ok (.iload_n 0, 1) := by decide +kernel
theorem dX4_isPixel_5 : decode cX4_isPixel 5 = .ok (.bipush 48, 2) := by decide +kernel
theorem dX4_isPixel_7 : decode cX4_isPixel 7 = .ok (.if_icmp .ge 7, 3) := by decide +kernel
theorem dX4_isPixel_10 : decode cX4_isPixel 10 = .ok (.iconst 1, 1) := by decide +kernel
theorem dX4_isPixel_11 : decode cX4_isPixel 11 = .ok (.goto 4, 3) := by decide +kernel
theorem dX4_isPixel_14 : decode cX4_isPixel 14 = .ok (.iconst 0, 1) := by decide +kernel
theorem dX4_isPixel_15 : decode cX4_isPixel 15 = .ok (.ireturn, 1) := by decide +kernel
theorem dX4_isRow_0 : decode cX4_isRow 0 = .ok (.iload_n 0, 1) := by decide +kernel
theorem dX4_isRow_1 : decode cX4_isRow 1 = .ok (.ifCond .lt 13, 3) := by decide +kernel
theorem dX4_isRow_4 : decode cX4_isRow 4 = .ok (.iload_n 0, 1) := by decide +kernel
theorem dX4_isRow_5 : decode cX4_isRow 5 = .ok (.bipush 6, 2) := by decide +kernel
theorem dX4_isRow_7 : decode cX4_isRow 7 = .ok (.if_icmp .ge 7, 3) := by decide +kernel
theorem dX4_isRow_10 : decode cX4_isRow 10 = .ok (.iconst 1, 1) := by decide +kernel
theorem dX4_isRow_11 : decode cX4_isRow 11 = .ok (.goto 4, 3) := by decide +kernel
theorem dX4_isRow_14 : decode cX4_isRow 14 = .ok (.iconst 0, 1) := by decide +kernel
theorem dX4_isRow_15 : decode cX4_isRow 15 = .ok (.ireturn, 1) := by decide +kernel
theorem dX4_isColour_0 : decode cX4_isColour 0 = .ok (.iload_n 0, 1) := by decide +kernel
theorem dX4_isColour_1 : decode cX4_isColour 1 = .ok (.ifCond .lt 14, 3) := by decide +kernel
theorem dX4_isColour_4 : decode cX4_isColour 4 = .ok (.iload_n 0, 1) := by decide +kernel
theorem dX4_isColour_5 : decode cX4_isColour 5 = .ok (.sipush 4096, 3) := by decide +kernel
theorem dX4_isColour_8 : decode cX4_isColour 8 = .ok (.if_icmp .ge 7, 3) := by decide +kernel
theorem dX4_isColour_11 : decode cX4_isColour 11 = .ok (.iconst 1, 1) := by decide +kernel
theorem dX4_isColour_12 : decode cX4_isColour 12 = .ok (.goto 4, 3) := by decide +kernel
theorem dX4_isColour_15 : decode cX4_isColour 15 = .ok (.iconst 0, 1) := by decide +kernel
theorem dX4_isColour_16 : decode cX4_isColour 16 = .ok (.ireturn, 1) := by decide +kernel
theorem dX4_isSlot_0 : decode cX4_isSlot 0 = .ok (.iload_n 0, 1) := by decide +kernel
theorem dX4_isSlot_1 : decode cX4_isSlot 1 = .ok (.ifCond .lt 12, 3) := by decide +kernel
theorem dX4_isSlot_4 : decode cX4_isSlot 4 = .ok (.iload_n 0, 1) := by decide +kernel
theorem dX4_isSlot_5 : decode cX4_isSlot 5 = .ok (.iconst 2, 1) := by decide +kernel
theorem dX4_isSlot_6 : decode cX4_isSlot 6 = .ok (.if_icmp .ge 7, 3) := by decide +kernel
theorem dX4_isSlot_9 : decode cX4_isSlot 9 = .ok (.iconst 1, 1) := by decide +kernel
theorem dX4_isSlot_10 : decode cX4_isSlot 10 = .ok (.goto 4, 3) := by decide +kernel
theorem dX4_isSlot_13 : decode cX4_isSlot 13 = .ok (.iconst 0, 1) := by decide +kernel
theorem dX4_isSlot_14 : decode cX4_isSlot 14 = .ok (.ireturn, 1) := by decide +kernel
theorem dX4_isSetting_0 : decode cX4_isSetting 0 = .ok (.iload_n 0, 1) := by decide +kernel
theorem dX4_isSetting_1 : decode cX4_isSetting 1 = .ok (.ifCond .lt 13, 3) := by decide +kernel
theorem dX4_isSetting_4 : decode cX4_isSetting 4 = .ok (.iload_n 0, 1) := by decide +kernel
theorem dX4_isSetting_5 : decode cX4_isSetting 5 = .ok (.bipush 6, 2) := by decide +kernel
theorem dX4_isSetting_7 : decode cX4_isSetting 7 = .ok (.if_icmp .ge 7, 3) := by decide +kernel
theorem dX4_isSetting_10 : decode cX4_isSetting 10 = .ok (.iconst 1, 1) := by decide +kernel
theorem dX4_isSetting_11 : decode cX4_isSetting 11 = .ok (.goto 4, 3) := by decide +kernel
theorem dX4_isSetting_14 : decode cX4_isSetting 14 = .ok (.iconst 0, 1) := by decide +kernel
theorem dX4_isSetting_15 : decode cX4_isSetting 15 = .ok (.ireturn, 1) := by decide +kernel
set_option maxRecDepth 20000 in
theorem ggX4_errorOfSetting_X4_isSetting : GoodIn wsX4_errorOfSetting wsX4_isSetting := goodIn_r _ [7] (by decide +kernel) (by decide +kernel)
set_option maxRecDepth 20000 in
theorem gX4_errorOfSetting_X4_isSetting : GoodIn wsX4_errorOfSetting (va_wsS RX4 177 yX4_isSetting wsX4_isSetting) := goodIn_app (goodIn_of _ (by decide +kernel)) ggX4_errorOfSetting_X4_isSetting
theorem dX4_errorOfSetting_0 : decode cX4_errorOfSetting 0 = .ok (.iload_n 1, 1) := by decide +kernel
theorem dX4_errorOfSetting_1 : decode cX4_errorOfSetting 1 = .ok (.invokestatic 177, 3) := by decide +kernel
theorem dX4_errorOfSetting_4 : decode cX4_errorOfSetting 4 = .ok (.ifCond .eq 16, 3) := by decide +kernel
theorem dX4_errorOfSetting_7 : decode cX4_errorOfSetting 7 = .ok (.iload_n 2, 1) := by decide +kernel
theorem dX4_errorOfSetting_8 : decode cX4_errorOfSetting 8 = .ok (.ifCond .lt 12, 3) := by decide +kernel
theorem dX4_errorOfSetting_11 : decode cX4_errorOfSetting 11 = .ok (.iload_n 2, 1) := by decide +kernel
theorem dX4_errorOfSetting_12 : decode cX4_errorOfSetting 12 = .ok (.getstatic 180, 3) := by decide +kernel
theorem dX4_errorOfSetting_15 : decode cX4_errorOfSetting 15 = .ok (.iload_n 1, 1) := by decide +kernel
theorem dX4_errorOfSetting_16 : decode cX4_errorOfSetting 16 = .ok (.iaload, 1) := by decide +kernel
theorem dX4_errorOfSetting_17 : decode cX4_errorOfSetting 17 = .ok (.if_icmp .le 6, 3) := by decide +kernel
theorem dX4_errorOfSetting_20 : decode cX4_errorOfSetting 20 = .ok (.bipush (-2), 2) := by decide +kernel
theorem dX4_errorOfSetting_22 : decode cX4_errorOfSetting 22 = .ok (.ireturn, 1) := by decide +kernel
theorem dX4_errorOfSetting_23 : decode cX4_errorOfSetting 23 = .ok (.iload_n 1, 1) := by decide +kernel
theorem dX4_errorOfSetting_24 : decode cX4_errorOfSetting 24 = .ok (.ifCond .ne 7, 3) := by decide +kernel
theorem dX4_errorOfSetting_27 : decode cX4_errorOfSetting 27 = .ok (.iload_n 2, 1) := by decide +kernel
theorem dX4_errorOfSetting_28 : decode cX4_errorOfSetting 28 = .ok (.goto 12, 3) := by decide +kernel
theorem dX4_errorOfSetting_31 : decode cX4_errorOfSetting 31 = .ok (.aload_n 0, 1) := by decide +kernel
theorem dX4_errorOfSetting_32 : decode cX4_errorOfSetting 32 = .ok (.getfield 10, 3) := by decide +kernel
theorem dX4_errorOfSetting_35 : decode cX4_errorOfSetting 35 = .ok (.getfield 137, 3) := by decide +kernel
theorem dX4_errorOfSetting_38 : decode cX4_errorOfSetting 38 = .ok (.iconst 0, 1) := by decide +kernel
theorem dX4_errorOfSetting_39 : decode cX4_errorOfSetting 39 = .ok (.iaload, 1) := by decide +kernel
theorem dX4_errorOfSetting_40 : decode cX4_errorOfSetting 40 = .ok (.istore_n 3, 1) := by decide +kernel
theorem dX4_errorOfSetting_41 : decode cX4_errorOfSetting 41 = .ok (.iload_n 1, 1) := by decide +kernel
theorem dX4_errorOfSetting_42 : decode cX4_errorOfSetting 42 = .ok (.iconst 1, 1) := by decide +kernel
theorem dX4_errorOfSetting_43 : decode cX4_errorOfSetting 43 = .ok (.if_icmp .ne 7, 3) := by decide +kernel
theorem dX4_errorOfSetting_46 : decode cX4_errorOfSetting 46 = .ok (.iload_n 2, 1) := by decide +kernel
theorem dX4_errorOfSetting_47 : decode cX4_errorOfSetting 47 = .ok (.goto 12, 3) := by decide +kernel
theorem dX4_errorOfSetting_50 : decode cX4_errorOfSetting 50 = .ok (.aload_n 0, 1) := by decide +kernel
theorem dX4_errorOfSetting_51 : decode cX4_errorOfSetting 51 = .ok (.getfield 10, 3) := by decide +kernel
theorem dX4_errorOfSetting_54 : decode cX4_errorOfSetting 54 = .ok (.getfield 137, 3) := by decide +kernel
theorem dX4_errorOfSetting_57 : decode cX4_errorOfSetting 57 = .ok (.iconst 1, 1) := by decide +kernel
theorem dX4_errorOfSetting_58 : decode cX4_errorOfSetting 58 = .ok (.iaload, 1) := by decide +kernel
theorem dX4_errorOfSetting_59 : decode cX4_errorOfSetting 59 = .ok (.istore 4, 2) := by decide +kernel
theorem dX4_errorOfSetting_61 : decode cX4_errorOfSetting 61 = .ok (.iload_n 3, 1) := by decide +kernel
theorem dX4_errorOfSetting_62 : decode cX4_errorOfSetting 62 = .ok (.iload 4, 2) := by decide +kernel
theorem dX4_errorOfSetting_64 : decode cX4_errorOfSetting 64 = .ok (.if_icmp .ge 7, 3) := by decide +kernel
theorem dX4_errorOfSetting_67 : decode cX4_errorOfSetting 67 = .ok (.iconst 0, 1) := by decide +kernel
theorem dX4_errorOfSetting_68 : decode cX4_errorOfSetting 68 = .ok (.goto 5, 3) := by decide +kernel
theorem dX4_errorOfSetting_71 : decode cX4_errorOfSetting 71 = .ok (.bipush (-5), 2) := by decide +kernel
theorem dX4_errorOfSetting_73 : decode cX4_errorOfSetting 73 = .ok (.ireturn, 1) := by decide +kernel
theorem dX4_charactersIn_0 : decode cX4_charactersIn 0 = .ok (.lload_n 0, 1) := by decide +kernel
theorem dX4_charactersIn_1 : decode cX4_charactersIn 1 = .ok (.lstore_n 2, 1) := by decide +kernel
theorem dX4_charactersIn_2 : decode cX4_charactersIn 2 = .ok (.iconst 0, 1) := by decide +kernel
theorem dX4_charactersIn_3 : decode cX4_charactersIn 3 = .ok (.istore 4, 2) := by decide +kernel
theorem dX4_charactersIn_5 : decode cX4_charactersIn 5 = .ok (.iconst 0, 1) := by decide +kernel
theorem dX4_charactersIn_6 : decode cX4_charactersIn 6 = .ok (.istore 5, 2) := by decide +kernel
theorem dX4_charactersIn_8 : decode cX4_charactersIn 8 = .ok (.iload 5, 2) := by decide +kernel
theorem dX4_charactersIn_10 : decode cX4_charactersIn 10 = .ok (.bipush 8, 2) := by decide +kernel
theorem dX4_charactersIn_12 : decode cX4_charactersIn 12 = .ok (.if_icmp .ge 47, 3) := by decide +kernel
theorem dX4_charactersIn_15 : decode cX4_charactersIn 15 = .ok (.lload_n 2, 1) := by decide +kernel
theorem dX4_charactersIn_16 : decode cX4_charactersIn 16 = .ok (.lconst 0, 1) := by decide +kernel
theorem dX4_charactersIn_17 : decode cX4_charactersIn 17 = .ok (.lcmp, 1) := by decide +kernel
theorem dX4_charactersIn_18 : decode cX4_charactersIn 18 = .ok (.ifCond .eq 41, 3) := by decide +kernel
theorem dX4_charactersIn_21 : decode cX4_charactersIn 21 = .ok (.lload_n 2, 1) := by decide +kernel
theorem dX4_charactersIn_22 : decode cX4_charactersIn 22 = .ok (.ldc2_w 183, 3) := by decide +kernel
theorem dX4_charactersIn_25 : decode cX4_charactersIn 25 = .ok (.land, 1) := by decide +kernel
theorem dX4_charactersIn_26 : decode cX4_charactersIn 26 = .ok (.l2i, 1) := by decide +kernel
theorem dX4_charactersIn_27 : decode cX4_charactersIn 27 = .ok (.istore 6, 2) := by decide +kernel
theorem dX4_charactersIn_29 : decode cX4_charactersIn 29 = .ok (.iload 6, 2) := by decide +kernel
theorem dX4_charactersIn_31 : decode cX4_charactersIn 31 = .ok (.bipush 33, 2) := by decide +kernel
theorem dX4_charactersIn_33 : decode cX4_charactersIn 33 = .ok (.if_icmp .lt 10, 3) := by decide +kernel
theorem dX4_charactersIn_36 : decode cX4_charactersIn 36 = .ok (.iload 6, 2) := by decide +kernel
theorem dX4_charactersIn_38 : decode cX4_charactersIn 38 = .ok (.bipush 126, 2) := by decide +kernel
theorem dX4_charactersIn_40 : decode cX4_charactersIn 40 = .ok (.if_icmp .le 5, 3) := by decide +kernel
theorem dX4_charactersIn_43 : decode cX4_charactersIn 43 = .ok (.iconst 0, 1) := by decide +kernel
theorem dX4_charactersIn_44 : decode cX4_charactersIn 44 = .ok (.ireturn, 1) := by decide +kernel
theorem dX4_charactersIn_45 : decode cX4_charactersIn 45 = .ok (.iinc 4 1, 3) := by decide +kernel
theorem dX4_charactersIn_48 : decode cX4_charactersIn 48 = .ok (.lload_n 2, 1) := by decide +kernel
theorem dX4_charactersIn_49 : decode cX4_charactersIn 49 = .ok (.bipush 8, 2) := by decide +kernel
theorem dX4_charactersIn_51 : decode cX4_charactersIn 51 = .ok (.lushr, 1) := by decide +kernel
theorem dX4_charactersIn_52 : decode cX4_charactersIn 52 = .ok (.lstore_n 2, 1) := by decide +kernel
theorem dX4_charactersIn_53 : decode cX4_charactersIn 53 = .ok (.iinc 5 1, 3) := by decide +kernel
theorem dX4_charactersIn_56 : decode cX4_charactersIn 56 = .ok (.goto (-48), 3) := by decide +kernel
theorem dX4_charactersIn_59 : decode cX4_charactersIn 59 = .ok (.iload 4, 2) := by decide +kernel
theorem dX4_charactersIn_61 : decode cX4_charactersIn 61 = .ok (.ireturn, 1) := by decide +kernel
theorem dX4_beside_0 : decode cX4_beside 0 = .ok (.iload_n 0, 1) := by decide +kernel
theorem dX4_beside_1 : decode cX4_beside 1 = .ok (.bipush 8, 2) := by decide +kernel
theorem dX4_beside_3 : decode cX4_beside 3 = .ok (.irem, 1) := by decide +kernel
theorem dX4_beside_4 : decode cX4_beside 4 = .ok (.istore_n 2, 1) := by decide +kernel
theorem dX4_beside_5 : decode cX4_beside 5 = .ok (.iload_n 1, 1) := by decide +kernel
theorem dX4_beside_6 : decode cX4_beside 6 = .ok (.tableswitch 68 0 2 #[26, 41, 56], 26) := by decide +kernel
theorem dX4_beside_32 : decode cX4_beside 32 = .ok (.iload_n 0, 1) := by decide +kernel
theorem dX4_beside_33 : decode cX4_beside 33 = .ok (.bipush 8, 2) := by decide +kernel
theorem dX4_beside_35 : decode cX4_beside 35 = .ok (.if_icmp .lt 10, 3) := by decide +kernel
theorem dX4_beside_38 : decode cX4_beside 38 = .ok (.iload_n 0, 1) := by decide +kernel
theorem dX4_beside_39 : decode cX4_beside 39 = .ok (.bipush 8, 2) := by decide +kernel
theorem dX4_beside_41 : decode cX4_beside 41 = .ok (.isub, 1) := by decide +kernel
theorem dX4_beside_42 : decode cX4_beside 42 = .ok (.goto 4, 3) := by decide +kernel
theorem dX4_beside_45 : decode cX4_beside 45 = .ok (.iconst (-1), 1) := by decide +kernel
theorem dX4_beside_46 : decode cX4_beside 46 = .ok (.ireturn, 1) := by decide +kernel
theorem dX4_beside_47 : decode cX4_beside 47 = .ok (.iload_n 0, 1) := by decide +kernel
theorem dX4_beside_48 : decode cX4_beside 48 = .ok (.bipush 40, 2) := by decide +kernel
theorem dX4_beside_50 : decode cX4_beside 50 = .ok (.if_icmp .ge 10, 3) := by decide +kernel
theorem dX4_beside_53 : decode cX4_beside 53 = .ok (.iload_n 0, 1) := by decide +kernel
theorem dX4_beside_54 : decode cX4_beside 54 = .ok (.bipush 8, 2) := by decide +kernel
theorem dX4_beside_56 : decode cX4_beside 56 = .ok (.iadd, 1) := by decide +kernel
theorem dX4_beside_57 : decode cX4_beside 57 = .ok (.goto 4, 3) := by decide +kernel
theorem dX4_beside_60 : decode cX4_beside 60 = .ok (.iconst (-1), 1) := by decide +kernel
theorem dX4_beside_61 : decode cX4_beside 61 = .ok (.ireturn, 1) := by decide +kernel
theorem dX4_beside_62 : decode cX4_beside 62 = .ok (.iload_n 2, 1) := by decide +kernel
theorem dX4_beside_63 : decode cX4_beside 63 = .ok (.ifCond .le 9, 3) := by decide +kernel
theorem dX4_beside_66 : decode cX4_beside 66 = .ok (.iload_n 0, 1) := by decide +kernel
theorem dX4_beside_67 : decode cX4_beside 67 = .ok (.iconst 1, 1) := by decide +kernel
theorem dX4_beside_68 : decode cX4_beside 68 = .ok (.isub, 1) := by decide +kernel
theorem dX4_beside_69 : decode cX4_beside 69 = .ok (.goto 4, 3) := by decide +kernel
theorem dX4_beside_72 : decode cX4_beside 72 = .ok (.iconst (-1), 1) := by decide +kernel
theorem dX4_beside_73 : decode cX4_beside 73 = .ok (.ireturn, 1) := by decide +kernel
theorem dX4_beside_74 : decode cX4_beside 74 = .ok (.iload_n 2, 1) := by decide +kernel
theorem dX4_beside_75 : decode cX4_beside 75 = .ok (.bipush 7, 2) := by decide +kernel
theorem dX4_beside_77 : decode cX4_beside 77 = .ok (.if_icmp .ge 9, 3) := by decide +kernel
theorem dX4_beside_80 : decode cX4_beside 80 = .ok (.iload_n 0, 1) := by decide +kernel
theorem dX4_beside_81 : decode cX4_beside 81 = .ok (.iconst 1, 1) := by decide +kernel
theorem dX4_beside_82 : decode cX4_beside 82 = .ok (.iadd, 1) := by decide +kernel
theorem dX4_beside_83 : decode cX4_beside 83 = .ok (.goto 4, 3) := by decide +kernel
theorem dX4_beside_86 : decode cX4_beside 86 = .ok (.iconst (-1), 1) := by decide +kernel
theorem dX4_beside_87 : decode cX4_beside 87 = .ok (.ireturn, 1) := by decide +kernel
theorem dX4_isAtEdge_0 : decode cX4_isAtEdge 0 = .ok (.iload_n 0, 1) := by decide +kernel
theorem dX4_isAtEdge_1 : decode cX4_isAtEdge 1 = .ok (.bipush 8, 2) := by decide +kernel
theorem dX4_isAtEdge_3 : decode cX4_isAtEdge 3 = .ok (.irem, 1) := by decide +kernel
theorem dX4_isAtEdge_4 : decode cX4_isAtEdge 4 = .ok (.istore_n 1, 1) := by decide +kernel
theorem dX4_isAtEdge_5 : decode cX4_isAtEdge 5 = .ok (.iload_n 0, 1) := by decide +kernel
theorem dX4_isAtEdge_6 : decode cX4_isAtEdge 6 = .ok (.bipush 8, 2) := by decide +kernel
theorem dX4_isAtEdge_8 : decode cX4_isAtEdge 8 = .ok (.idiv, 1) := by decide +kernel
theorem dX4_isAtEdge_9 : decode cX4_isAtEdge 9 = .ok (.istore_n 2, 1) := by decide +kernel
theorem dX4_isAtEdge_10 : decode cX4_isAtEdge 10 = .ok (.iload_n 1, 1) := by decide +kernel
theorem dX4_isAtEdge_11 : decode cX4_isAtEdge 11 = .ok (.ifCond .eq 18, 3) := by decide +kernel
theorem dX4_isAtEdge_14 : decode cX4_isAtEdge 14 = .ok (.iload_n 1, 1) := by decide +kernel
theorem dX4_isAtEdge_15 : decode cX4_isAtEdge 15 = .ok (.bipush 7, 2) := by decide +kernel
theorem dX4_isAtEdge_17 : decode cX4_isAtEdge 17 = .ok (.if_icmp .eq 12, 3) := by decide +kernel
theorem dX4_isAtEdge_20 : decode cX4_isAtEdge 20 = .ok (.iload_n 2, 1) := by decide +kernel
theorem dX4_isAtEdge_21 : decode cX4_isAtEdge 21 = .ok (.ifCond .eq 8, 3) := by decide +kernel
theorem dX4_isAtEdge_24 : decode cX4_isAtEdge 24 = .ok (.iload_n 2, 1) := by decide +kernel
theorem dX4_isAtEdge_25 : decode cX4_isAtEdge 25 = .ok (.iconst 5, 1) := by decide +kernel
theorem dX4_isAtEdge_26 : decode cX4_isAtEdge 26 = .ok (.if_icmp .ne 7, 3) := by decide +kernel
theorem dX4_isAtEdge_29 : decode cX4_isAtEdge 29 = .ok (.iconst 1, 1) := by decide +kernel
theorem dX4_isAtEdge_30 : decode cX4_isAtEdge 30 = .ok (.goto 4, 3) := by decide +kernel
theorem dX4_isAtEdge_33 : decode cX4_isAtEdge 33 = .ok (.iconst 0, 1) := by decide +kernel
theorem dX4_isAtEdge_34 : decode cX4_isAtEdge 34 = .ok (.ireturn, 1) := by decide +kernel
theorem dX4_fillBetween_0 : decode cX4_fillBetween 0 = .ok (.iload_n 1, 1) := by decide +kernel
theorem dX4_fillBetween_1 : decode cX4_fillBetween 1 = .ok (.bipush 8, 2) := by decide +kernel
theorem dX4_fillBetween_3 : decode cX4_fillBetween 3 = .ok (.irem, 1) := by decide +kernel
theorem dX4_fillBetween_4 : decode cX4_fillBetween 4 = .ok (.iload_n 2, 1) := by decide +kernel
theorem dX4_fillBetween_5 : decode cX4_fillBetween 5 = .ok (.bipush 8, 2) := by decide +kernel
theorem dX4_fillBetween_7 : decode cX4_fillBetween 7 = .ok (.irem, 1) := by decide +kernel
theorem dX4_fillBetween_8 : decode cX4_fillBetween 8 = .ok (.invokestatic 185, 3) := by decide +kernel
theorem dX4_fillBetween_11 : decode cX4_fillBetween 11 = .ok (.istore 4, 2) := by decide +kernel
theorem dX4_fillBetween_13 : decode cX4_fillBetween 13 = .ok (.iload_n 1, 1) := by decide +kernel
theorem dX4_fillBetween_14 : decode cX4_fillBetween 14 = .ok (.bipush 8, 2) := by decide +kernel
theorem dX4_fillBetween_16 : decode cX4_fillBetween 16 = .ok (.irem, 1) := by decide +kernel
theorem dX4_fillBetween_17 : decode cX4_fillBetween 17 = .ok (.iload_n 2, 1) := by decide +kernel
theorem dX4_fillBetween_18 : decode cX4_fillBetween 18 = .ok (.bipush 8, 2) := by decide +kernel
theorem dX4_fillBetween_20 : decode cX4_fillBetween 20 = .ok (.irem, 1) := by decide +kernel
theorem dX4_fillBetween_21 : decode cX4_fillBetween 21 = .ok (.invokestatic 190, 3) := by decide +kernel
theorem dX4_fillBetween_24 : decode cX4_fillBetween 24 = .ok (.istore 5, 2) := by decide +kernel
theorem dX4_fillBetween_26 : decode cX4_fillBetween 26 = .ok (.iload_n 1, 1) := by decide +kernel
theorem dX4_fillBetween_27 : decode cX4_fillBetween 27 = .ok (.bipush 8, 2) := by decide +kernel
theorem dX4_fillBetween_29 : decode cX4_fillBetween 29 = .ok (.idiv, 1) := by decide +kernel
theorem dX4_fillBetween_30 : decode cX4_fillBetween 30 = .ok (.iload_n 2, 1) := by decide +kernel
theorem dX4_fillBetween_31 : decode cX4_fillBetween 31 = .ok (.bipush 8, 2) := by decide +kernel
theorem dX4_fillBetween_33 : decode cX4_fillBetween 33 = .ok (.idiv, 1) := by decide +kernel
theorem dX4_fillBetween_34 : decode cX4_fillBetween 34 = .ok (.invokestatic 185, 3) := by decide +kernel
theorem dX4_fillBetween_37 : decode cX4_fillBetween 37 = .ok (.istore 6, 2) := by decide +kernel
theorem dX4_fillBetween_39 : decode cX4_fillBetween 39 = .ok (.iload_n 1, 1) := by decide +kernel
theorem dX4_fillBetween_40 : decode cX4_fillBetween 40 = .ok (.bipush 8, 2) := by decide +kernel
theorem dX4_fillBetween_42 : decode cX4_fillBetween 42 = .ok (.idiv, 1) := by decide +kernel
theorem dX4_fillBetween_43 : decode cX4_fillBetween 43 = .ok (.iload_n 2, 1) := by decide +kernel
theorem dX4_fillBetween_44 : decode cX4_fillBetween 44 = .ok (.bipush 8, 2) := by decide +kernel
theorem dX4_fillBetween_46 : decode cX4_fillBetween 46 = .ok (.idiv, 1) := by decide +kernel
theorem dX4_fillBetween_47 : decode cX4_fillBetween 47 = .ok (.invokestatic 190, 3) := by decide +kernel
theorem dX4_fillBetween_50 : decode cX4_fillBetween 50 = .ok (.istore 7, 2) := by decide +kernel
theorem dX4_fillBetween_52 : decode cX4_fillBetween 52 = .ok (.iload 6, 2) := by decide +kernel
theorem dX4_fillBetween_54 : decode cX4_fillBetween 54 = .ok (.istore 8, 2) := by decide +kernel
theorem dX4_fillBetween_56 : decode cX4_fillBetween 56 = .ok (.iload 8, 2) := by decide +kernel
theorem dX4_fillBetween_58 : decode cX4_fillBetween 58 = .ok (.iload 7, 2) := by decide +kernel
theorem dX4_fillBetween_60 : decode cX4_fillBetween 60 = .ok (.if_icmp .gt 37, 3) := by decide +kernel
theorem dX4_fillBetween_63 : decode cX4_fillBetween 63 = .ok (.iload 4, 2) := by decide +kernel
theorem dX4_fillBetween_65 : decode cX4_fillBetween 65 = .ok (.istore 9, 2) := by decide +kernel
theorem dX4_fillBetween_67 : decode cX4_fillBetween 67 = .ok (.iload 9, 2) := by decide +kernel
theorem dX4_fillBetween_69 : decode cX4_fillBetween 69 = .ok (.iload 5, 2) := by decide +kernel
theorem dX4_fillBetween_71 : decode cX4_fillBetween 71 = .ok (.if_icmp .gt 20, 3) := by decide +kernel
theorem dX4_fillBetween_74 : decode cX4_fillBetween 74 = .ok (.aload_n 0, 1) := by decide +kernel
theorem dX4_fillBetween_75 : decode cX4_fillBetween 75 = .ok (.bipush 8, 2) := by decide +kernel
theorem dX4_fillBetween_77 : decode cX4_fillBetween 77 = .ok (.iload 8, 2) := by decide +kernel
theorem dX4_fillBetween_79 : decode cX4_fillBetween 79 = .ok (.imul, 1) := by decide +kernel
theorem dX4_fillBetween_80 : decode cX4_fillBetween 80 = .ok (.iload 9, 2) := by decide +kernel
theorem dX4_fillBetween_82 : decode cX4_fillBetween 82 = .ok (.iadd, 1) := by decide +kernel
theorem dX4_fillBetween_83 : decode cX4_fillBetween 83 = .ok (.iload_n 3, 1) := by decide +kernel
theorem dX4_fillBetween_84 : decode cX4_fillBetween 84 = .ok (.iastore, 1) := by decide +kernel
theorem dX4_fillBetween_85 : decode cX4_fillBetween 85 = .ok (.iinc 9 1, 3) := by decide +kernel
theorem dX4_fillBetween_88 : decode cX4_fillBetween 88 = .ok (.goto (-21), 3) := by decide +kernel
theorem dX4_fillBetween_91 : decode cX4_fillBetween 91 = .ok (.iinc 8 1, 3) := by decide +kernel
theorem dX4_fillBetween_94 : decode cX4_fillBetween 94 = .ok (.goto (-38), 3) := by decide +kernel
theorem dX4_fillBetween_97 : decode cX4_fillBetween 97 = .ok (.iload 5, 2) := by decide +kernel
theorem dX4_fillBetween_99 : decode cX4_fillBetween 99 = .ok (.iload 4, 2) := by decide +kernel
theorem dX4_fillBetween_101 : decode cX4_fillBetween 101 = .ok (.isub, 1) := by decide +kernel
theorem dX4_fillBetween_102 : decode cX4_fillBetween 102 = .ok (.iconst 1, 1) := by decide +kernel
theorem dX4_fillBetween_103 : decode cX4_fillBetween 103 = .ok (.iadd, 1) := by decide +kernel
theorem dX4_fillBetween_104 : decode cX4_fillBetween 104 = .ok (.iload 7, 2) := by decide +kernel
theorem dX4_fillBetween_106 : decode cX4_fillBetween 106 = .ok (.iload 6, 2) := by decide +kernel
theorem dX4_fillBetween_108 : decode cX4_fillBetween 108 = .ok (.isub, 1) := by decide +kernel
theorem dX4_fillBetween_109 : decode cX4_fillBetween 109 = .ok (.iconst 1, 1) := by decide +kernel
theorem dX4_fillBetween_110 : decode cX4_fillBetween 110 = .ok (.iadd, 1) := by decide +kernel
theorem dX4_fillBetween_111 : decode cX4_fillBetween 111 = .ok (.imul, 1) := by decide +kernel
theorem dX4_fillBetween_112 : decode cX4_fillBetween 112 = .ok (.ireturn, 1) := by decide +kernel
set_option maxRecDepth 20000 in
theorem ggX4_part_X4_partShift : GoodIn wsX4_part wsX4_partShift := goodIn_r _ [4] (by decide +kernel) (by decide +kernel)
set_option maxRecDepth 20000 in
theorem gX4_part_X4_partShift : GoodIn wsX4_part (va_wsS RX4 193 yX4_partShift wsX4_partShift) := goodIn_app (goodIn_of _ (by decide +kernel)) ggX4_part_X4_partShift
theorem dX4_part_0 : decode cX4_part 0 = .ok (.iload_n 0, 1) := by decide +kernel
theorem dX4_part_1 : decode cX4_part 1 = .ok (.iload_n 1, 1) := by decide +kernel
theorem dX4_part_2 : decode cX4_part 2 = .ok (.invokestatic 193, 3) := by decide +kernel
theorem dX4_part_5 : decode cX4_part 5 = .ok (.ishr, 1) := by decide +kernel
theorem dX4_part_6 : decode cX4_part 6 = .ok (.bipush 15, 2) := by decide +kernel
theorem dX4_part_8 : decode cX4_part 8 = .ok (.iand, 1) := by decide +kernel
theorem dX4_part_9 : decode cX4_part 9 = .ok (.ireturn, 1) := by decide +kernel
theorem dX4_partShift_0 : decode cX4_partShift 0 = .ok (.iconst 4, 1) := by decide +kernel
theorem dX4_partShift_1 : decode cX4_partShift 1 = .ok (.iconst 2, 1) := by decide +kernel
theorem dX4_partShift_2 : decode cX4_partShift 2 = .ok (.iload_n 0, 1) := by decide +kernel
theorem dX4_partShift_3 : decode cX4_partShift 3 = .ok (.isub, 1) := by decide +kernel
theorem dX4_partShift_4 : decode cX4_partShift 4 = .ok (.imul, 1) := by decide +kernel
theorem dX4_partShift_5 : decode cX4_partShift 5 = .ok (.ireturn, 1) := by decide +kernel
set_option maxRecDepth 20000 in
theorem ggX4_mainPart_X4_part : GoodIn wsX4_mainPart wsX4_part := goodIn_r _ [4, 5, 6, 3, 7] (by decide +kernel) (by decide +kernel)
set_option maxRecDepth 20000 in
theorem gX4_mainPart_X4_part : GoodIn wsX4_mainPart (va_wsS RX4 196 yX4_part wsX4_part) := goodIn_app (goodIn_of _ (by decide +kernel)) ggX4_mainPart_X4_part
theorem dX4_mainPart_0 : decode cX4_mainPart 0 = .ok (.iconst 0, 1) := by decide +kernel
theorem dX4_mainPart_1 : decode cX4_mainPart 1 = .ok (.istore_n 1, 1) := by decide +kernel
theorem dX4_mainPart_2 : decode cX4_mainPart 2 = .ok (.iconst 1, 1) := by decide +kernel
theorem dX4_mainPart_3 : decode cX4_mainPart 3 = .ok (.istore_n 2, 1) := by decide +kernel
theorem dX4_mainPart_4 : decode cX4_mainPart 4 = .ok (.iload_n 2, 1) := by decide +kernel
theorem dX4_mainPart_5 : decode cX4_mainPart 5 = .ok (.iconst 3, 1) := by decide +kernel
theorem dX4_mainPart_6 : decode cX4_mainPart 6 = .ok (.if_icmp .ge 24, 3) := by decide +kernel
theorem dX4_mainPart_9 : decode cX4_mainPart 9 = .ok (.iload_n 0, 1) := by decide +kernel
theorem dX4_mainPart_10 : decode cX4_mainPart 10 = .ok (.iload_n 2, 1) := by decide +kernel
theorem dX4_mainPart_11 : decode cX4_mainPart 11 = .ok (.invokestatic 196, 3) := by decide +kernel
theorem dX4_mainPart_14 : decode cX4_mainPart 14 = .ok (.iload_n 0, 1) := by decide +kernel
theorem dX4_mainPart_15 : decode cX4_mainPart 15 = .ok (.iload_n 1, 1) := by decide +kernel
theorem dX4_mainPart_16 : decode cX4_mainPart 16 = .ok (.invokestatic 196, 3) := by decide +kernel
theorem dX4_mainPart_19 : decode cX4_mainPart 19 = .ok (.if_icmp .le 5, 3) := by decide +kernel
theorem dX4_mainPart_22 : decode cX4_mainPart 22 = .ok (.iload_n 2, 1) := by decide +kernel
theorem dX4_mainPart_23 : decode cX4_mainPart 23 = .ok (.istore_n 1, 1) := by decide +kernel
theorem dX4_mainPart_24 : decode cX4_mainPart 24 = .ok (.iinc 2 1, 3) := by decide +kernel
theorem dX4_mainPart_27 : decode cX4_mainPart 27 = .ok (.goto (-23), 3) := by decide +kernel
theorem dX4_mainPart_30 : decode cX4_mainPart 30 = .ok (.iload_n 1, 1) := by decide +kernel
theorem dX4_mainPart_31 : decode cX4_mainPart 31 = .ok (.ireturn, 1) := by decide +kernel
set_option maxRecDepth 20000 in
theorem ggX4_spillIn_X4_part : GoodIn wsX4_spillIn wsX4_part := goodIn_r _ [8, 9, 10, 7, 11] (by decide +kernel) (by decide +kernel)
set_option maxRecDepth 20000 in
theorem gX4_spillIn_X4_part : GoodIn wsX4_spillIn (va_wsS RX4 196 yX4_part wsX4_part) := goodIn_app (goodIn_of _ (by decide +kernel)) ggX4_spillIn_X4_part
theorem dX4_spillIn_0 : decode cX4_spillIn 0 = .ok (.iload_n 0, 1) := by decide +kernel
theorem dX4_spillIn_1 : decode cX4_spillIn 1 = .ok (.iload_n 1, 1) := by decide +kernel
theorem dX4_spillIn_2 : decode cX4_spillIn 2 = .ok (.iconst 1, 1) := by decide +kernel
theorem dX4_spillIn_3 : decode cX4_spillIn 3 = .ok (.iadd, 1) := by decide +kernel
theorem dX4_spillIn_4 : decode cX4_spillIn 4 = .ok (.iconst 3, 1) := by decide +kernel
theorem dX4_spillIn_5 : decode cX4_spillIn 5 = .ok (.irem, 1) := by decide +kernel
theorem dX4_spillIn_6 : decode cX4_spillIn 6 = .ok (.invokestatic 196, 3) := by decide +kernel
theorem dX4_spillIn_9 : decode cX4_spillIn 9 = .ok (.istore_n 2, 1) := by decide +kernel
theorem dX4_spillIn_10 : decode cX4_spillIn 10 = .ok (.iload_n 0, 1) := by decide +kernel
theorem dX4_spillIn_11 : decode cX4_spillIn 11 = .ok (.iload_n 1, 1) := by decide +kernel
theorem dX4_spillIn_12 : decode cX4_spillIn 12 = .ok (.iconst 2, 1) := by decide +kernel
theorem dX4_spillIn_13 : decode cX4_spillIn 13 = .ok (.iadd, 1) := by decide +kernel
theorem dX4_spillIn_14 : decode cX4_spillIn 14 = .ok (.iconst 3, 1) := by decide +kernel
theorem dX4_spillIn_15 : decode cX4_spillIn 15 = .ok (.irem, 1) := by decide +kernel
theorem dX4_spillIn_16 : decode cX4_spillIn 16 = .ok (.invokestatic 196, 3) := by decide +kernel
theorem dX4_spillIn_19 : decode cX4_spillIn 19 = .ok (.istore_n 3, 1) := by decide +kernel
theorem dX4_spillIn_20 : decode cX4_spillIn 20 = .ok (.iconst 0, 1) := by decide +kernel
theorem dX4_spillIn_21 : decode cX4_spillIn 21 = .ok (.iload_n 0, 1) := by decide +kernel
theorem dX4_spillIn_22 : decode cX4_spillIn 22 = .ok (.iload_n 1, 1) := by decide +kernel
theorem dX4_spillIn_23 : decode cX4_spillIn 23 = .ok (.invokestatic 196, 3) := by decide +kernel
theorem dX4_spillIn_26 : decode cX4_spillIn 26 = .ok (.iload_n 2, 1) := by decide +kernel
theorem dX4_spillIn_27 : decode cX4_spillIn 27 = .ok (.iload_n 3, 1) := by decide +kernel
theorem dX4_spillIn_28 : decode cX4_spillIn 28 = .ok (.invokestatic 190, 3) := by decide +kernel
theorem dX4_spillIn_31 : decode cX4_spillIn 31 = .ok (.isub, 1) := by decide +kernel
theorem dX4_spillIn_32 : decode cX4_spillIn 32 = .ok (.invokestatic 190, 3) := by decide +kernel
theorem dX4_spillIn_35 : decode cX4_spillIn 35 = .ok (.ireturn, 1) := by decide +kernel
set_option maxRecDepth 20000 in
theorem ggX4_distance_X4_part : GoodIn wsX4_distance wsX4_part := goodIn_r _ [8, 9, 10, 7, 11] (by decide +kernel) (by decide +kernel)
set_option maxRecDepth 20000 in
theorem gX4_distance_X4_part : GoodIn wsX4_distance (va_wsS RX4 196 yX4_part wsX4_part) := goodIn_app (goodIn_of _ (by decide +kernel)) ggX4_distance_X4_part
theorem dX4_distance_0 : decode cX4_distance 0 = .ok (.iconst 0, 1) := by decide +kernel
theorem dX4_distance_1 : decode cX4_distance 1 = .ok (.istore_n 2, 1) := by decide +kernel
theorem dX4_distance_2 : decode cX4_distance 2 = .ok (.iconst 0, 1) := by decide +kernel
theorem dX4_distance_3 : decode cX4_distance 3 = .ok (.istore_n 3, 1) := by decide +kernel
theorem dX4_distance_4 : decode cX4_distance 4 = .ok (.iload_n 3, 1) := by decide +kernel
theorem dX4_distance_5 : decode cX4_distance 5 = .ok (.iconst 3, 1) := by decide +kernel
theorem dX4_distance_6 : decode cX4_distance 6 = .ok (.if_icmp .ge 26, 3) := by decide +kernel
theorem dX4_distance_9 : decode cX4_distance 9 = .ok (.iload_n 2, 1) := by decide +kernel
theorem dX4_distance_10 : decode cX4_distance 10 = .ok (.iload_n 0, 1) := by decide +kernel
theorem dX4_distance_11 : decode cX4_distance 11 = .ok (.iload_n 3, 1) := by decide +kernel
theorem dX4_distance_12 : decode cX4_distance 12 = .ok (.invokestatic 196, 3) := by decide +kernel
theorem dX4_distance_15 : decode cX4_distance 15 = .ok (.iload_n 1, 1) := by decide +kernel
theorem dX4_distance_16 : decode cX4_distance 16 = .ok (.iload_n 3, 1) := by decide +kernel
theorem dX4_distance_17 : decode cX4_distance 17 = .ok (.invokestatic 196, 3) := by decide +kernel
theorem dX4_distance_20 : decode cX4_distance 20 = .ok (.isub, 1) := by decide +kernel
theorem dX4_distance_21 : decode cX4_distance 21 = .ok (.invokestatic 199, 3) := by decide +kernel
theorem dX4_distance_24 : decode cX4_distance 24 = .ok (.iadd, 1) := by decide +kernel
theorem dX4_distance_25 : decode cX4_distance 25 = .ok (.istore_n 2, 1) := by decide +kernel
theorem dX4_distance_26 : decode cX4_distance 26 = .ok (.iinc 3 1, 3) := by decide +kernel
theorem dX4_distance_29 : decode cX4_distance 29 = .ok (.goto (-25), 3) := by decide +kernel
theorem dX4_distance_32 : decode cX4_distance 32 = .ok (.iload_n 2, 1) := by decide +kernel
theorem dX4_distance_33 : decode cX4_distance 33 = .ok (.ireturn, 1) := by decide +kernel
set_option maxRecDepth 20000 in
theorem ggX4_composedColour_X4_part : GoodIn wsX4_composedColour wsX4_part := goodIn_r _ [4, 5, 6, 3, 7] (by decide +kernel) (by decide +kernel)
set_option maxRecDepth 20000 in
theorem gX4_composedColour_X4_part : GoodIn wsX4_composedColour (va_wsS RX4 196 yX4_part wsX4_part) := goodIn_app (goodIn_of _ (by decide +kernel)) ggX4_composedColour_X4_part
set_option maxRecDepth 20000 in
theorem ggX4_composedColour_X4_partShift : GoodIn wsX4_composedColour wsX4_partShift := goodIn_r _ [7] (by decide +kernel) (by decide +kernel)
set_option maxRecDepth 20000 in
theorem gX4_composedColour_X4_partShift : GoodIn wsX4_composedColour (va_wsS RX4 193 yX4_partShift wsX4_partShift) := goodIn_app (goodIn_of _ (by decide +kernel)) ggX4_composedColour_X4_partShift
theorem dX4_composedColour_0 : decode cX4_composedColour 0 = .ok (.iconst 0, 1) := by decide +kernel
theorem dX4_composedColour_1 : decode cX4_composedColour 1 = .ok (.istore_n 3, 1) := by decide +kernel
theorem dX4_composedColour_2 : decode cX4_composedColour 2 = .ok (.iconst 0, 1) := by decide +kernel
theorem dX4_composedColour_3 : decode cX4_composedColour 3 = .ok (.istore 4, 2) := by decide +kernel
theorem dX4_composedColour_5 : decode cX4_composedColour 5 = .ok (.iload 4, 2) := by decide +kernel
theorem dX4_composedColour_7 : decode cX4_composedColour 7 = .ok (.iconst 3, 1) := by decide +kernel
theorem dX4_composedColour_8 : decode cX4_composedColour 8 = .ok (.if_icmp .ge 45, 3) := by decide +kernel
theorem dX4_composedColour_11 : decode cX4_composedColour 11 = .ok (.iload_n 0, 1) := by decide +kernel
theorem dX4_composedColour_12 : decode cX4_composedColour 12 = .ok (.iload 4, 2) := by decide +kernel
theorem dX4_composedColour_14 : decode cX4_composedColour 14 = .ok (.invokestatic 196, 3) := by decide +kernel
theorem dX4_composedColour_17 : decode cX4_composedColour 17 = .ok (.iload_n 2, 1) := by decide +kernel
theorem dX4_composedColour_18 : decode cX4_composedColour 18 = .ok (.imul, 1) := by decide +kernel
theorem dX4_composedColour_19 : decode cX4_composedColour 19 = .ok (.iload_n 1, 1) := by decide +kernel
theorem dX4_composedColour_20 : decode cX4_composedColour 20 = .ok (.iload 4, 2) := by decide +kernel
theorem dX4_composedColour_22 : decode cX4_composedColour 22 = .ok (.invokestatic 196, 3) := by decide +kernel
theorem dX4_composedColour_25 : decode cX4_composedColour 25 = .ok (.bipush 16, 2) := by decide +kernel
theorem dX4_composedColour_27 : decode cX4_composedColour 27 = .ok (.iload_n 2, 1) := by decide +kernel
theorem dX4_composedColour_28 : decode cX4_composedColour 28 = .ok (.isub, 1) := by decide +kernel
theorem dX4_composedColour_29 : decode cX4_composedColour 29 = .ok (.imul, 1) := by decide +kernel
theorem dX4_composedColour_30 : decode cX4_composedColour 30 = .ok (.iadd, 1) := by decide +kernel
theorem dX4_composedColour_31 : decode cX4_composedColour 31 = .ok (.bipush 16, 2) := by decide +kernel
theorem dX4_composedColour_33 : decode cX4_composedColour 33 = .ok (.idiv, 1) := by decide +kernel
theorem dX4_composedColour_34 : decode cX4_composedColour 34 = .ok (.istore 5, 2) := by decide +kernel
theorem dX4_composedColour_36 : decode cX4_composedColour 36 = .ok (.iload_n 3, 1) := by decide +kernel
theorem dX4_composedColour_37 : decode cX4_composedColour 37 = .ok (.iload 5, 2) := by decide +kernel
theorem dX4_composedColour_39 : decode cX4_composedColour 39 = .ok (.iload 4, 2) := by decide +kernel
theorem dX4_composedColour_41 : decode cX4_composedColour 41 = .ok (.invokestatic 193, 3) := by decide +kernel
theorem dX4_composedColour_44 : decode cX4_composedColour 44 = .ok (.ishl, 1) := by decide +kernel
theorem dX4_composedColour_45 : decode cX4_composedColour 45 = .ok (.ior, 1) := by decide +kernel
theorem dX4_composedColour_46 : decode cX4_composedColour 46 = .ok (.istore_n 3, 1) := by decide +kernel
theorem dX4_composedColour_47 : decode cX4_composedColour 47 = .ok (.iinc 4 1, 3) := by decide +kernel
theorem dX4_composedColour_50 : decode cX4_composedColour 50 = .ok (.goto (-45), 3) := by decide +kernel
theorem dX4_composedColour_53 : decode cX4_composedColour 53 = .ok (.iload_n 3, 1) := by decide +kernel
theorem dX4_composedColour_54 : decode cX4_composedColour 54 = .ok (.ireturn, 1) := by decide +kernel
theorem dX4_sum_0 : decode cX4_sum 0 = .ok (.iconst 0, 1) := by decide +kernel
theorem dX4_sum_1 : decode cX4_sum 1 = .ok (.istore_n 1, 1) := by decide +kernel
theorem dX4_sum_2 : decode cX4_sum 2 = .ok (.aload_n 0, 1) := by decide +kernel
theorem dX4_sum_3 : decode cX4_sum 3 = .ok (.astore_n 2, 1) := by decide +kernel
theorem dX4_sum_4 : decode cX4_sum 4 = .ok (.aload_n 2, 1) := by decide +kernel
theorem dX4_sum_5 : decode cX4_sum 5 = .ok (.arraylength, 1) := by decide +kernel
theorem dX4_sum_6 : decode cX4_sum 6 = .ok (.istore_n 3, 1) := by decide +kernel
theorem dX4_sum_7 : decode cX4_sum 7 = .ok (.iconst 0, 1) := by decide +kernel
theorem dX4_sum_8 : decode cX4_sum 8 = .ok (.istore 4, 2) := by decide +kernel
theorem dX4_sum_10 : decode cX4_sum 10 = .ok (.iload 4, 2) := by decide +kernel
theorem dX4_sum_12 : decode cX4_sum 12 = .ok (.iload_n 3, 1) := by decide +kernel
theorem dX4_sum_13 : decode cX4_sum 13 = .ok (.if_icmp .ge 20, 3) := by decide +kernel
theorem dX4_sum_16 : decode cX4_sum 16 = .ok (.aload_n 2, 1) := by decide +kernel
theorem dX4_sum_17 : decode cX4_sum 17 = .ok (.iload 4, 2) := by decide +kernel
theorem dX4_sum_19 : decode cX4_sum 19 = .ok (.iaload, 1) := by decide +kernel
theorem dX4_sum_20 : decode cX4_sum 20 = .ok (.istore 5, 2) := by decide +kernel
theorem dX4_sum_22 : decode cX4_sum 22 = .ok (.iload_n 1, 1) := by decide +kernel
theorem dX4_sum_23 : decode cX4_sum 23 = .ok (.iload 5, 2) := by decide +kernel
theorem dX4_sum_25 : decode cX4_sum 25 = .ok (.iadd, 1) := by decide +kernel
theorem dX4_sum_26 : decode cX4_sum 26 = .ok (.istore_n 1, 1) := by decide +kernel
theorem dX4_sum_27 : decode cX4_sum 27 = .ok (.iinc 4 1, 3) := by decide +kernel
theorem dX4_sum_30 : decode cX4_sum 30 = .ok (.goto (-20), 3) := by decide +kernel
theorem dX4_sum_33 : decode cX4_sum 33 = .ok (.iload_n 1, 1) := by decide +kernel
theorem dX4_sum_34 : decode cX4_sum 34 = .ok (.ireturn, 1) := by decide +kernel
theorem dX4_sameColours_0 : decode cX4_sameColours 0 = .ok (.iconst 0, 1) := by decide +kernel
theorem dX4_sameColours_1 : decode cX4_sameColours 1 = .ok (.istore_n 2, 1) := by decide +kernel
theorem dX4_sameColours_2 : decode cX4_sameColours 2 = .ok (.iconst 0, 1) := by decide +kernel
theorem dX4_sameColours_3 : decode cX4_sameColours 3 = .ok (.istore_n 3, 1) := by decide +kernel
theorem dX4_sameColours_4 : decode cX4_sameColours 4 = .ok (.iload_n 3, 1) := by decide +kernel
theorem dX4_sameColours_5 : decode cX4_sameColours 5 = .ok (.bipush 48, 2) := by decide +kernel
theorem dX4_sameColours_7 : decode cX4_sameColours 7 = .ok (.if_icmp .ge 21, 3) := by decide +kernel
theorem dX4_sameColours_10 : decode cX4_sameColours 10 = .ok (.aload_n 0, 1) := by decide +kernel
theorem dX4_sameColours_11 : decode cX4_sameColours 11 = .ok (.iload_n 3, 1) := by decide +kernel
theorem dX4_sameColours_12 : decode cX4_sameColours 12 = .ok (.iaload, 1) := by decide +kernel
theorem dX4_sameColours_13 : decode cX4_sameColours 13 = .ok (.aload_n 1, 1) := by decide +kernel
theorem dX4_sameColours_14 : decode cX4_sameColours 14 = .ok (.iload_n 3, 1) := by decide +kernel
theorem dX4_sameColours_15 : decode cX4_sameColours 15 = .ok (.iaload, 1) := by decide +kernel
theorem dX4_sameColours_16 : decode cX4_sameColours 16 = .ok (.if_icmp .ne 6, 3) := by decide +kernel
theorem dX4_sameColours_19 : decode cX4_sameColours 19 = .ok (.iinc 2 1, 3) := by decide +kernel
theorem dX4_sameColours_22 : decode cX4_sameColours 22 = .ok (.iinc 3 1, 3) := by decide +kernel
theorem dX4_sameColours_25 : decode cX4_sameColours 25 = .ok (.goto (-21), 3) := by decide +kernel
theorem dX4_sameColours_28 : decode cX4_sameColours 28 = .ok (.iload_n 2, 1) := by decide +kernel
theorem dX4_sameColours_29 : decode cX4_sameColours 29 = .ok (.ireturn, 1) := by decide +kernel
theorem dJ9_floorMod_7cf53_0 : decode cJ9_floorMod_7cf53 0 = .ok (.iload_n 0, 1) := by decide +kernel
theorem dJ9_floorMod_7cf53_1 : decode cJ9_floorMod_7cf53 1 = .ok (.iload_n 1, 1) := by decide +kernel
theorem dJ9_floorMod_7cf53_2 : decode cJ9_floorMod_7cf53 2 = .ok (.irem, 1) := by decide +kernel
theorem dJ9_floorMod_7cf53_3 : decode cJ9_floorMod_7cf53 3 = .ok (.istore_n 2, 1) := by decide +kernel
theorem dJ9_floorMod_7cf53_4 : decode cJ9_floorMod_7cf53 4 = .ok (.iload_n 0, 1) := by decide +kernel
theorem dJ9_floorMod_7cf53_5 : decode cJ9_floorMod_7cf53 5 = .ok (.iload_n 1, 1) := by decide +kernel
theorem dJ9_floorMod_7cf53_6 : decode cJ9_floorMod_7cf53 6 = .ok (.ixor, 1) := by decide +kernel
theorem dJ9_floorMod_7cf53_7 : decode cJ9_floorMod_7cf53 7 = .ok (.ifCond .ge 11, 3) := by decide +kernel
theorem dJ9_floorMod_7cf53_10 : decode cJ9_floorMod_7cf53 10 = .ok (.iload_n 2, 1) := by decide +kernel
theorem dJ9_floorMod_7cf53_11 : decode cJ9_floorMod_7cf53 11 = .ok (.ifCond .eq 7, 3) := by decide +kernel
theorem dJ9_floorMod_7cf53_14 : decode cJ9_floorMod_7cf53 14 = .ok (.iload_n 2, 1) := by decide +kernel
theorem dJ9_floorMod_7cf53_15 : decode cJ9_floorMod_7cf53 15 = .ok (.iload_n 1, 1) := by decide +kernel
theorem dJ9_floorMod_7cf53_16 : decode cJ9_floorMod_7cf53 16 = .ok (.iadd, 1) := by decide +kernel
theorem dJ9_floorMod_7cf53_17 : decode cJ9_floorMod_7cf53 17 = .ok (.ireturn, 1) := by decide +kernel
theorem dJ9_floorMod_7cf53_18 : decode cJ9_floorMod_7cf53 18 = .ok (.iload_n 2, 1) := by decide +kernel
theorem dJ9_floorMod_7cf53_19 : decode cJ9_floorMod_7cf53 19 = .ok (.ireturn, 1) := by decide +kernel
theorem dJ9_abs_0f7a4_0 : decode cJ9_abs_0f7a4 0 = .ok (.iload_n 0, 1) := by decide +kernel
theorem dJ9_abs_0f7a4_1 : decode cJ9_abs_0f7a4 1 = .ok (.ifCond .ge 8, 3) := by decide +kernel
theorem dJ9_abs_0f7a4_4 : decode cJ9_abs_0f7a4 4 = .ok (.iload_n 0, 1) := by decide +kernel
theorem dJ9_abs_0f7a4_5 : decode cJ9_abs_0f7a4 5 = .ok (.ineg, 1) := by decide +kernel
theorem dJ9_abs_0f7a4_6 : decode cJ9_abs_0f7a4 6 = .ok (.goto 4, 3) := by decide +kernel
theorem dJ9_abs_0f7a4_9 : decode cJ9_abs_0f7a4 9 = .ok (.iload_n 0, 1) := by decide +kernel
theorem dJ9_abs_0f7a4_10 : decode cJ9_abs_0f7a4 10 = .ok (.ireturn, 1) := by decide +kernel
theorem dJ9_max_7cf53_0 : decode cJ9_max_7cf53 0 = .ok (.iload_n 0, 1) := by decide +kernel
theorem dJ9_max_7cf53_1 : decode cJ9_max_7cf53 1 = .ok (.iload_n 1, 1) := by decide +kernel
theorem dJ9_max_7cf53_2 : decode cJ9_max_7cf53 2 = .ok (.if_icmp .lt 7, 3) := by decide +kernel
theorem dJ9_max_7cf53_5 : decode cJ9_max_7cf53 5 = .ok (.iload_n 0, 1) := by decide +kernel
theorem dJ9_max_7cf53_6 : decode cJ9_max_7cf53 6 = .ok (.goto 4, 3) := by decide +kernel
theorem dJ9_max_7cf53_9 : decode cJ9_max_7cf53 9 = .ok (.iload_n 1, 1) := by decide +kernel
theorem dJ9_max_7cf53_10 : decode cJ9_max_7cf53 10 = .ok (.ireturn, 1) := by decide +kernel
theorem dJ9_min_7cf53_0 : decode cJ9_min_7cf53 0 = .ok (.iload_n 0, 1) := by decide +kernel
theorem dJ9_min_7cf53_1 : decode cJ9_min_7cf53 1 = .ok (.iload_n 1, 1) := by decide +kernel
theorem dJ9_min_7cf53_2 : decode cJ9_min_7cf53 2 = .ok (.if_icmp .gt 7, 3) := by decide +kernel
theorem dJ9_min_7cf53_5 : decode cJ9_min_7cf53 5 = .ok (.iload_n 0, 1) := by decide +kernel
theorem dJ9_min_7cf53_6 : decode cJ9_min_7cf53 6 = .ok (.goto 4, 3) := by decide +kernel
theorem dJ9_min_7cf53_9 : decode cJ9_min_7cf53 9 = .ok (.iload_n 1, 1) := by decide +kernel
theorem dJ9_min_7cf53_10 : decode cJ9_min_7cf53 10 = .ok (.ireturn, 1) := by decide +kernel
theorem dL_cell_0 : decode cL_cell 0 = .ok (.iload_n 1, 1) := by decide +kernel
theorem dL_cell_1 : decode cL_cell 1 = .ok (.aload_n 0, 1) := by decide +kernel
theorem dL_cell_2 : decode cL_cell 2 = .ok (.arraylength, 1) := by decide +kernel
theorem dL_cell_3 : decode cL_cell 3 = .ok (.if_icmp .ge 9, 3) := by decide +kernel
theorem dL_cell_6 : decode cL_cell 6 = .ok (.aload_n 0, 1) := by decide +kernel
theorem dL_cell_7 : decode cL_cell 7 = .ok (.iload_n 1, 1) := by decide +kernel
theorem dL_cell_8 : decode cL_cell 8 = .ok (.iaload, 1) := by decide +kernel
theorem dL_cell_9 : decode cL_cell 9 = .ok (.goto 11, 3) := by decide +kernel
theorem dL_cell_12 : decode cL_cell 12 = .ok (.ldc 7, 2) := by decide +kernel
theorem dL_cell_14 : decode cL_cell 14 = .ok (.iload_n 1, 1) := by decide +kernel
theorem dL_cell_15 : decode cL_cell 15 = .ok (.sipush 1321, 3) := by decide +kernel
theorem dL_cell_18 : decode cL_cell 18 = .ok (.iadd, 1) := by decide +kernel
theorem dL_cell_19 : decode cL_cell 19 = .ok (.imul, 1) := by decide +kernel
theorem dL_cell_20 : decode cL_cell 20 = .ok (.ireturn, 1) := by decide +kernel
theorem dL_up_0 : decode cL_up 0 = .ok (.iload_n 0, 1) := by decide +kernel
theorem dL_up_1 : decode cL_up 1 = .ok (.ldc 8, 2) := by decide +kernel
theorem dL_up_3 : decode cL_up 3 = .ok (.iand, 1) := by decide +kernel
theorem dL_up_4 : decode cL_up 4 = .ok (.iload_n 1, 1) := by decide +kernel
theorem dL_up_5 : decode cL_up 5 = .ok (.irem, 1) := by decide +kernel
theorem dL_up_6 : decode cL_up 6 = .ok (.ireturn, 1) := by decide +kernel
theorem dL_there_0 : decode cL_there 0 = .ok (.iload_n 0, 1) := by decide +kernel
theorem dL_there_1 : decode cL_there 1 = .ok (.iload_n 0, 1) := by decide +kernel
theorem dL_there_2 : decode cL_there 2 = .ok (.bipush 8, 2) := by decide +kernel
theorem dL_there_4 : decode cL_there 4 = .ok (.irem, 1) := by decide +kernel
theorem dL_there_5 : decode cL_there 5 = .ok (.isub, 1) := by decide +kernel
theorem dL_there_6 : decode cL_there 6 = .ok (.bipush 7, 2) := by decide +kernel
theorem dL_there_8 : decode cL_there 8 = .ok (.iadd, 1) := by decide +kernel
theorem dL_there_9 : decode cL_there 9 = .ok (.iload_n 0, 1) := by decide +kernel
theorem dL_there_10 : decode cL_there 10 = .ok (.bipush 8, 2) := by decide +kernel
theorem dL_there_12 : decode cL_there 12 = .ok (.irem, 1) := by decide +kernel
theorem dL_there_13 : decode cL_there 13 = .ok (.isub, 1) := by decide +kernel
theorem dL_there_14 : decode cL_there 14 = .ok (.ireturn, 1) := by decide +kernel
set_option maxRecDepth 20000 in
theorem ggL_digit_X4_put : GoodIn wsL_digit wsX4_put := goodIn_r _ [5, 6, 7, 8, 9, 4, 10, 11, 12, 13, 14, 15, 16, 17, 18, 19, 20, 21, 22, 23, 24, 25, 26, 27, 28] (by decide +kernel) (by decide +kernel)
set_option maxRecDepth 20000 in
theorem gL_digit_X4_put : GoodIn wsL_digit (wsV RL 9 RX4 yX4_put wsX4_put) := goodIn_app (goodIn_of _ (by decide +kernel)) ggL_digit_X4_put
theorem dL_digit_0 : decode cL_digit 0 = .ok (.aload_n 0, 1) := by decide +kernel
theorem dL_digit_1 : decode cL_digit 1 = .ok (.iload_n 1, 1) := by decide +kernel
theorem dL_digit_2 : decode cL_digit 2 = .ok (.bipush 10, 2) := by decide +kernel
theorem dL_digit_4 : decode cL_digit 4 = .ok (.if_icmp .ge 11, 3) := by decide +kernel
theorem dL_digit_7 : decode cL_digit 7 = .ok (.bipush 48, 2) := by decide +kernel
theorem dL_digit_9 : decode cL_digit 9 = .ok (.iload_n 1, 1) := by decide +kernel
theorem dL_digit_10 : decode cL_digit 10 = .ok (.iadd, 1) := by decide +kernel
theorem dL_digit_11 : decode cL_digit 11 = .ok (.i2l, 1) := by decide +kernel
theorem dL_digit_12 : decode cL_digit 12 = .ok (.goto 11, 3) := by decide +kernel
theorem dL_digit_15 : decode cL_digit 15 = .ok (.bipush 97, 2) := by decide +kernel
theorem dL_digit_17 : decode cL_digit 17 = .ok (.iload_n 1, 1) := by decide +kernel
theorem dL_digit_18 : decode cL_digit 18 = .ok (.iadd, 1) := by decide +kernel
theorem dL_digit_19 : decode cL_digit 19 = .ok (.bipush 10, 2) := by decide +kernel
theorem dL_digit_21 : decode cL_digit 21 = .ok (.isub, 1) := by decide +kernel
theorem dL_digit_22 : decode cL_digit 22 = .ok (.i2l, 1) := by decide +kernel
theorem dL_digit_23 : decode cL_digit 23 = .ok (.invokevirtual 9, 3) := by decide +kernel
theorem dL_digit_26 : decode cL_digit 26 = .ok (.ifCond .le 7, 3) := by decide +kernel
theorem dL_digit_29 : decode cL_digit 29 = .ok (.iconst 1, 1) := by decide +kernel
theorem dL_digit_30 : decode cL_digit 30 = .ok (.goto 4, 3) := by decide +kernel
theorem dL_digit_33 : decode cL_digit 33 = .ok (.iconst 0, 1) := by decide +kernel
theorem dL_digit_34 : decode cL_digit 34 = .ok (.ireturn, 1) := by decide +kernel
