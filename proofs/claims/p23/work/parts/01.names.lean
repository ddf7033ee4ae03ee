-- ===== PART A: goes FIRST, ahead of the names: the tables' words, and 'selects' of the private methods out of them =====
/-- a private method of a class that the tables say can be made, by its rows of tables_1 -/
def lw_okq (q : MethodName × Nat) : Prop := (q.1.cls ≠ "java/lang/invoke/MethodHandle" ∧ q.1.cls ≠ "java/lang/invoke/VarHandle") ∧ Cond.instantiable q.1.cls q.2 ∈ tables_1 ∧ Cond.privateMethod q.1 ∈ tables_1 ∧ Cond.instanceMethod q.1 ∈ tables_1
theorem lw_p0 : lw_okq (⟨"GlassSpill$View", "findOpaque", "(LGlassSpill$Scene;)V"⟩, 10) := ⟨⟨by decide +kernel, by decide +kernel⟩, List.mem_of_getElem? (i := 56) (by decide +kernel), List.mem_of_getElem? (i := 175) (by decide +kernel), List.mem_of_getElem? (i := 176) (by decide +kernel)⟩
theorem lw_p1 : lw_okq (⟨"GlassSpill$View", "closeHoles", "()V"⟩, 10) := ⟨⟨by decide +kernel, by decide +kernel⟩, List.mem_of_getElem? (i := 56) (by decide +kernel), List.mem_of_getElem? (i := 201) (by decide +kernel), List.mem_of_getElem? (i := 202) (by decide +kernel)⟩
theorem lw_p2 : lw_okq (⟨"GlassSpill$View", "reachFromEdge", "()V"⟩, 10) := ⟨⟨by decide +kernel, by decide +kernel⟩, List.mem_of_getElem? (i := 56) (by decide +kernel), List.mem_of_getElem? (i := 205) (by decide +kernel), List.mem_of_getElem? (i := 206) (by decide +kernel)⟩
theorem lw_p3 : lw_okq (⟨"GlassSpill$View", "reach", "(I)V"⟩, 10) := ⟨⟨by decide +kernel, by decide +kernel⟩, List.mem_of_getElem? (i := 56) (by decide +kernel), List.mem_of_getElem? (i := 212) (by decide +kernel), List.mem_of_getElem? (i := 213) (by decide +kernel)⟩
theorem lw_p4 : lw_okq (⟨"GlassSpill$View", "findKinds", "(LGlassSpill$Scene;)V"⟩, 10) := ⟨⟨by decide +kernel, by decide +kernel⟩, List.mem_of_getElem? (i := 56) (by decide +kernel), List.mem_of_getElem? (i := 220) (by decide +kernel), List.mem_of_getElem? (i := 221) (by decide +kernel)⟩
theorem lw_p5 : lw_okq (⟨"GlassSpill$View", "unmarkedKind", "(I)I"⟩, 10) := ⟨⟨by decide +kernel, by decide +kernel⟩, List.mem_of_getElem? (i := 56) (by decide +kernel), List.mem_of_getElem? (i := 224) (by decide +kernel), List.mem_of_getElem? (i := 225) (by decide +kernel)⟩
theorem lw_p6 : lw_okq (⟨"GlassSpill$View", "isOneBeside", "(II)Z"⟩, 10) := ⟨⟨by decide +kernel, by decide +kernel⟩, List.mem_of_getElem? (i := 56) (by decide +kernel), List.mem_of_getElem? (i := 228) (by decide +kernel), List.mem_of_getElem? (i := 229) (by decide +kernel)⟩
theorem lw_p7 : lw_okq (⟨"GlassSpill$View", "compose", "(LGlassSpill$Scene;)V"⟩, 10) := ⟨⟨by decide +kernel, by decide +kernel⟩, List.mem_of_getElem? (i := 56) (by decide +kernel), List.mem_of_getElem? (i := 232) (by decide +kernel), List.mem_of_getElem? (i := 233) (by decide +kernel)⟩
theorem lw_p8 : lw_okq (⟨"GlassSpill", "errorOfSetting", "(II)I"⟩, 7) := ⟨⟨by decide +kernel, by decide +kernel⟩, List.mem_of_getElem? (i := 9) (by decide +kernel), List.mem_of_getElem? (i := 274) (by decide +kernel), List.mem_of_getElem? (i := 275) (by decide +kernel)⟩
def lw_privs_1 : List (MethodName × Nat) := [(⟨"GlassSpill$View", "findOpaque", "(LGlassSpill$Scene;)V"⟩, 10), (⟨"GlassSpill$View", "closeHoles", "()V"⟩, 10), (⟨"GlassSpill$View", "reachFromEdge", "()V"⟩, 10), (⟨"GlassSpill$View", "reach", "(I)V"⟩, 10), (⟨"GlassSpill$View", "findKinds", "(LGlassSpill$Scene;)V"⟩, 10), (⟨"GlassSpill$View", "unmarkedKind", "(I)I"⟩, 10), (⟨"GlassSpill$View", "isOneBeside", "(II)Z"⟩, 10), (⟨"GlassSpill$View", "compose", "(LGlassSpill$Scene;)V"⟩, 10), (⟨"GlassSpill", "errorOfSetting", "(II)I"⟩, 7)]
theorem lw_r1 : ∀ q ∈ lw_privs_1, lw_okq q := List.forall_mem_cons.mpr ⟨lw_p0, List.forall_mem_cons.mpr ⟨lw_p1, List.forall_mem_cons.mpr ⟨lw_p2, List.forall_mem_cons.mpr ⟨lw_p3, List.forall_mem_cons.mpr ⟨lw_p4, List.forall_mem_cons.mpr ⟨lw_p5, List.forall_mem_cons.mpr ⟨lw_p6, List.forall_mem_cons.mpr ⟨lw_p7, List.forall_mem_cons.mpr ⟨lw_p8, fun _ h => absurd h List.not_mem_nil⟩⟩⟩⟩⟩⟩⟩⟩⟩
def lw_privs : List (MethodName × Nat) := lw_privs_1
def lw_tbl : List Cond := k2_sels lw_privs ++ tables_1
theorem lw_privs_ok : ∀ q ∈ lw_privs, lw_okq q := lw_r1
-- ===== end of PART A =====
/-! ===== BEGIN words of one list among another's, by their places ===== -/
theorem goodIn_r {big : List Cond} (ws : List Cond) (ps : List Nat) (hp : ws = ps.filterMap (fun i => big[i]?)) (h : ws.all goodWord = true) : GoodIn big ws := by
  intro w hw
  have h1 := List.all_eq_true.mp h w hw
  rw [hp] at hw
  obtain ⟨i, -, hi⟩ := List.mem_filterMap.mp hw
  have hm : w ∈ big := by first | exact List.mem_of_getElem? hi | exact List.getElem?_mem hi
  exact ⟨hm, good_of_word h1⟩
theorem goodIn_app {big a b : List Cond} (ha : GoodIn big a) (hb : GoodIn big b) : GoodIn big (a ++ b) := fun w h => (List.mem_append.mp h).elim (ha w) (hb w)
theorem goodIn_ca {big a b : List Cond} {c : Cond} (ha : GoodIn big (c :: a)) (hb : GoodIn big b) : GoodIn big (c :: (a ++ b)) := fun w h => (List.mem_cons.mp h).elim (fun e => ha w (List.mem_cons.mpr (Or.inl e))) (fun h => (List.mem_append.mp h).elim (fun h => ha w (List.mem_cons.mpr (Or.inr h))) (hb w))
theorem goodIn_sub {big ws : List Cond} (hm : ∀ w ∈ ws, w ∈ big) (h : ws.all goodWord = true) : GoodIn big ws := fun w hw => ⟨hm w hw, good_of_word (List.all_eq_true.mp h w hw)⟩
/-! ===== END ===== -/

/-! ===== BEGIN printed: names, fields, word lists, decode rows ===== -/
def RX0 : String := "GlassSpill$History"
def TX0 : u_T := fun k => match k with
  | 0 => ("GlassSpill$History", "states", "[LGlassSpill$Scene;", true)
  | 1 => ("GlassSpill$History", "oldest", "I", false)
  | _ => ("GlassSpill$History", "size", "I", false)
def tyX0 : Nat → FieldType := fun k => match k with
  | 0 => .array (.object "GlassSpill$Scene")
  | 1 => .int
  | _ => .int
abbrev wsX00 : List Cond := u_ws RX0 TX0 3
theorem nmX0 : ∀ a, a < 3 → ∀ b, b < 3 → a ≠ b → (TX0 a).2.1 ≠ (TX0 b).2.1 := by decide +kernel
theorem tyX0_ok : ∀ k, k < 3 → parseFieldDescriptor (TX0 k).2.2.1 = some (tyX0 k) := by decide +kernel
abbrev cX0_init : ByteArray := prog_2_method_1_code
def yX0_init : MethodName := ⟨RX0, "<init>", "()V"⟩
abbrev cX0_remember : ByteArray := prog_2_method_2_code
def yX0_remember : MethodName := ⟨RX0, "remember", "(LGlassSpill$Scene;)V"⟩
abbrev cX0_takeBack : ByteArray := prog_2_method_3_code
def yX0_takeBack : MethodName := ⟨RX0, "takeBack", "(LGlassSpill$Scene;)V"⟩
def RX1 : String := "GlassSpill$Pad"
def TX1 : u_T := fun k => match k with
  | 0 => ("GlassSpill$Pad", "codes", "[I", true)
  | _ => ("GlassSpill$Pad", "length", "I", false)
def tyX1 : Nat → FieldType := fun k => match k with
  | 0 => .array .int
  | _ => .int
abbrev wsX10 : List Cond := u_ws RX1 TX1 2
theorem nmX1 : ∀ a, a < 2 → ∀ b, b < 2 → a ≠ b → (TX1 a).2.1 ≠ (TX1 b).2.1 := by decide +kernel
theorem tyX1_ok : ∀ k, k < 2 → parseFieldDescriptor (TX1 k).2.2.1 = some (tyX1 k) := by decide +kernel
abbrev cX1_init : ByteArray := prog_3_method_1_code
def yX1_init : MethodName := ⟨RX1, "<init>", "()V"⟩
abbrev cX1_append : ByteArray := prog_3_method_2_code
def yX1_append : MethodName := ⟨RX1, "append", "(JI)V"⟩
abbrev cX1_firstFault : ByteArray := prog_3_method_3_code
def yX1_firstFault : MethodName := ⟨RX1, "firstFault", "()I"⟩
abbrev cX1_paintOn : ByteArray := prog_3_method_4_code
def yX1_paintOn : MethodName := ⟨RX1, "paintOn", "([II)I"⟩
abbrev cX1_partOf : ByteArray := prog_3_method_5_code
def yX1_partOf : MethodName := ⟨RX1, "partOf", "(I)I"⟩
def RX2 : String := "GlassSpill$Scene"
def TX2 : u_T := fun k => match k with
  | 0 => ("GlassSpill$Scene", "settings", "[I", true)
  | 1 => ("GlassSpill$Scene", "front", "[I", true)
  | 2 => ("GlassSpill$Scene", "back", "[I", true)
  | 3 => ("GlassSpill$Scene", "glass", "[Z", true)
  | _ => ("GlassSpill$Scene", "screenColour", "I", false)
def tyX2 : Nat → FieldType := fun k => match k with
  | 0 => .array .int
  | 1 => .array .int
  | 2 => .array .int
  | 3 => .array .boolean
  | _ => .int
abbrev wsX20 : List Cond := u_ws RX2 TX2 5
theorem nmX2 : ∀ a, a < 5 → ∀ b, b < 5 → a ≠ b → (TX2 a).2.1 ≠ (TX2 b).2.1 := by decide +kernel
theorem tyX2_ok : ∀ k, k < 5 → parseFieldDescriptor (TX2 k).2.2.1 = some (tyX2 k) := by decide +kernel
abbrev cX2_init : ByteArray := prog_4_method_1_code
def yX2_init : MethodName := ⟨RX2, "<init>", "()V"⟩
abbrev cX2_copyFrom : ByteArray := prog_4_method_2_code
def yX2_copyFrom : MethodName := ⟨RX2, "copyFrom", "(LGlassSpill$Scene;)V"⟩
abbrev cX2_changeSetting : ByteArray := prog_4_method_3_code
def yX2_changeSetting : MethodName := ⟨RX2, "changeSetting", "(II)I"⟩
abbrev cX2_picture : ByteArray := prog_4_method_4_code
def yX2_picture : MethodName := ⟨RX2, "picture", "(Z)[I"⟩
abbrev cX2_distanceOf : ByteArray := prog_4_method_5_code
def yX2_distanceOf : MethodName := ⟨RX2, "distanceOf", "(I)I"⟩
abbrev cX2_marked : ByteArray := prog_4_method_6_code
def yX2_marked : MethodName := ⟨RX2, "marked", "()I"⟩
def RX3 : String := "GlassSpill$View"
def TX3 : u_T := fun k => match k with
  | 0 => ("GlassSpill$View", "raw", "[I", true)
  | 1 => ("GlassSpill$View", "opaque", "[I", true)
  | 2 => ("GlassSpill$View", "kinds", "[I", true)
  | 3 => ("GlassSpill$View", "spill", "[I", true)
  | 4 => ("GlassSpill$View", "taken", "[I", true)
  | 5 => ("GlassSpill$View", "cleaned", "[I", true)
  | 6 => ("GlassSpill$View", "composed", "[I", true)
  | 7 => ("GlassSpill$View", "reached", "[Z", true)
  | 8 => ("GlassSpill$View", "queue", "[I", true)
  | _ => ("GlassSpill$View", "queued", "I", false)
def tyX3 : Nat → FieldType := fun k => match k with
  | 0 => .array .int
  | 1 => .array .int
  | 2 => .array .int
  | 3 => .array .int
  | 4 => .array .int
  | 5 => .array .int
  | 6 => .array .int
  | 7 => .array .boolean
  | 8 => .array .int
  | _ => .int
abbrev wsX30 : List Cond := u_ws RX3 TX3 10
theorem nmX3 : ∀ a, a < 10 → ∀ b, b < 10 → a ≠ b → (TX3 a).2.1 ≠ (TX3 b).2.1 := by decide +kernel
theorem tyX3_ok : ∀ k, k < 10 → parseFieldDescriptor (TX3 k).2.2.1 = some (tyX3 k) := by decide +kernel
abbrev cX3_init : ByteArray := prog_5_method_1_code
def yX3_init : MethodName := ⟨RX3, "<init>", "()V"⟩
abbrev cX3_show : ByteArray := prog_5_method_2_code
def yX3_show : MethodName := ⟨RX3, "show", "(LGlassSpill$Scene;)V"⟩
abbrev cX3_clearPixels : ByteArray := prog_5_method_3_code
def yX3_clearPixels : MethodName := ⟨RX3, "clearPixels", "(LGlassSpill$Scene;)I"⟩
abbrev cX3_ofKind : ByteArray := prog_5_method_4_code
def yX3_ofKind : MethodName := ⟨RX3, "ofKind", "(I)I"⟩
abbrev cX3_closed : ByteArray := prog_5_method_5_code
def yX3_closed : MethodName := ⟨RX3, "closed", "()I"⟩
abbrev cX3_spillLeft : ByteArray := prog_5_method_6_code
def yX3_spillLeft : MethodName := ⟨RX3, "spillLeft", "(LGlassSpill$Scene;)I"⟩
abbrev cX3_findOpaque : ByteArray := prog_5_method_7_code
def yX3_findOpaque : MethodName := ⟨RX3, "findOpaque", "(LGlassSpill$Scene;)V"⟩
abbrev cX3_rawOpaque : ByteArray := prog_5_method_8_code
def yX3_rawOpaque : MethodName := ⟨RX3, "rawOpaque", "(III)I"⟩
abbrev cX3_closeHoles : ByteArray := prog_5_method_9_code
def yX3_closeHoles : MethodName := ⟨RX3, "closeHoles", "()V"⟩
abbrev cX3_reachFromEdge : ByteArray := prog_5_method_10_code
def yX3_reachFromEdge : MethodName := ⟨RX3, "reachFromEdge", "()V"⟩
abbrev cX3_reach : ByteArray := prog_5_method_11_code
def yX3_reach : MethodName := ⟨RX3, "reach", "(I)V"⟩
abbrev cX3_findKinds : ByteArray := prog_5_method_12_code
def yX3_findKinds : MethodName := ⟨RX3, "findKinds", "(LGlassSpill$Scene;)V"⟩
abbrev cX3_unmarkedKind : ByteArray := prog_5_method_13_code
def yX3_unmarkedKind : MethodName := ⟨RX3, "unmarkedKind", "(I)I"⟩
abbrev cX3_isOneBeside : ByteArray := prog_5_method_14_code
def yX3_isOneBeside : MethodName := ⟨RX3, "isOneBeside", "(II)Z"⟩
abbrev cX3_compose : ByteArray := prog_5_method_15_code
def yX3_compose : MethodName := ⟨RX3, "compose", "(LGlassSpill$Scene;)V"⟩
abbrev cX3_share : ByteArray := prog_5_method_16_code
def yX3_share : MethodName := ⟨RX3, "share", "(LGlassSpill$Scene;I)I"⟩
def RX4 : String := "GlassSpill"
def TX4 : u_T := fun k => match k with
  | 0 => ("GlassSpill", "now", "LGlassSpill$Scene;", true)
  | 1 => ("GlassSpill", "trial", "LGlassSpill$Scene;", true)
  | 2 => ("GlassSpill", "shown", "LGlassSpill$View;", true)
  | 3 => ("GlassSpill", "trialView", "LGlassSpill$View;", true)
  | 4 => ("GlassSpill", "pad", "LGlassSpill$Pad;", true)
  | 5 => ("GlassSpill", "history", "LGlassSpill$History;", true)
  | _ => ("GlassSpill", "slots", "[LGlassSpill$Scene;", true)
def tyX4 : Nat → FieldType := fun k => match k with
  | 0 => .object "GlassSpill$Scene"
  | 1 => .object "GlassSpill$Scene"
  | 2 => .object "GlassSpill$View"
  | 3 => .object "GlassSpill$View"
  | 4 => .object "GlassSpill$Pad"
  | 5 => .object "GlassSpill$History"
  | _ => .array (.object "GlassSpill$Scene")
abbrev wsX40 : List Cond := u_ws RX4 TX4 7
theorem nmX4 : ∀ a, a < 7 → ∀ b, b < 7 → a ≠ b → (TX4 a).2.1 ≠ (TX4 b).2.1 := by decide +kernel
theorem tyX4_ok : ∀ k, k < 7 → parseFieldDescriptor (TX4 k).2.2.1 = some (tyX4 k) := by decide +kernel
abbrev cX4_init : ByteArray := prog_1_method_1_code
def yX4_init : MethodName := ⟨RX4, "<init>", "()V"⟩
abbrev cX4_set : ByteArray := prog_1_method_2_code
def yX4_set : MethodName := ⟨RX4, "set", "(II)I"⟩
abbrev cX4_screen : ByteArray := prog_1_method_3_code
def yX4_screen : MethodName := ⟨RX4, "screen", "(I)I"⟩
abbrev cX4_paint : ByteArray := prog_1_method_4_code
def yX4_paint : MethodName := ⟨RX4, "paint", "(ZII)I"⟩
abbrev cX4_fill : ByteArray := prog_1_method_5_code
def yX4_fill : MethodName := ⟨RX4, "fill", "(ZIII)I"⟩
abbrev cX4_read : ByteArray := prog_1_method_6_code
def yX4_read : MethodName := ⟨RX4, "read", "(ZI)I"⟩
abbrev cX4_mark : ByteArray := prog_1_method_7_code
def yX4_mark : MethodName := ⟨RX4, "mark", "(IZ)I"⟩
abbrev cX4_keep : ByteArray := prog_1_method_8_code
def yX4_keep : MethodName := ⟨RX4, "keep", "()I"⟩
abbrev cX4_pixel : ByteArray := prog_1_method_9_code
def yX4_pixel : MethodName := ⟨RX4, "pixel", "(II)I"⟩
abbrev cX4_count : ByteArray := prog_1_method_10_code
def yX4_count : MethodName := ⟨RX4, "count", "(I)I"⟩
abbrev cX4_row : ByteArray := prog_1_method_11_code
def yX4_row : MethodName := ⟨RX4, "row", "(II)I"⟩
abbrev cX4_bestScreen : ByteArray := prog_1_method_12_code
def yX4_bestScreen : MethodName := ⟨RX4, "bestScreen", "(I)I"⟩
abbrev cX4_leastNear : ByteArray := prog_1_method_13_code
def yX4_leastNear : MethodName := ⟨RX4, "leastNear", "(I)I"⟩
abbrev cX4_ifSet : ByteArray := prog_1_method_14_code
def yX4_ifSet : MethodName := ⟨RX4, "ifSet", "(II)I"⟩
abbrev cX4_bestShare : ByteArray := prog_1_method_15_code
def yX4_bestShare : MethodName := ⟨RX4, "bestShare", "(II)I"⟩
abbrev cX4_put : ByteArray := prog_1_method_16_code
def yX4_put : MethodName := ⟨RX4, "put", "(J)I"⟩
abbrev cX4_wipe : ByteArray := prog_1_method_17_code
def yX4_wipe : MethodName := ⟨RX4, "wipe", "()I"⟩
abbrev cX4_undo : ByteArray := prog_1_method_19_code
def yX4_undo : MethodName := ⟨RX4, "undo", "()I"⟩
abbrev cX4_save : ByteArray := prog_1_method_20_code
def yX4_save : MethodName := ⟨RX4, "save", "(I)I"⟩
abbrev cX4_restore : ByteArray := prog_1_method_21_code
def yX4_restore : MethodName := ⟨RX4, "restore", "(I)I"⟩
abbrev cX4_isPixel : ByteArray := prog_1_method_22_code
def yX4_isPixel : MethodName := ⟨RX4, "isPixel", "(I)Z"⟩
abbrev cX4_isRow : ByteArray := prog_1_method_23_code
def yX4_isRow : MethodName := ⟨RX4, "isRow", "(I)Z"⟩
abbrev cX4_isColour : ByteArray := prog_1_method_24_code
def yX4_isColour : MethodName := ⟨RX4, "isColour", "(I)Z"⟩
abbrev cX4_isSlot : ByteArray := prog_1_method_25_code
def yX4_isSlot : MethodName := ⟨RX4, "isSlot", "(I)Z"⟩
abbrev cX4_isSetting : ByteArray := prog_1_method_26_code
def yX4_isSetting : MethodName := ⟨RX4, "isSetting", "(I)Z"⟩
abbrev cX4_errorOfSetting : ByteArray := prog_1_method_27_code
def yX4_errorOfSetting : MethodName := ⟨RX4, "errorOfSetting", "(II)I"⟩
abbrev cX4_charactersIn : ByteArray := prog_1_method_28_code
def yX4_charactersIn : MethodName := ⟨RX4, "charactersIn", "(J)I"⟩
abbrev cX4_beside : ByteArray := prog_1_method_29_code
def yX4_beside : MethodName := ⟨RX4, "beside", "(II)I"⟩
abbrev cX4_isAtEdge : ByteArray := prog_1_method_30_code
def yX4_isAtEdge : MethodName := ⟨RX4, "isAtEdge", "(I)Z"⟩
abbrev cX4_fillBetween : ByteArray := prog_1_method_31_code
def yX4_fillBetween : MethodName := ⟨RX4, "fillBetween", "([IIII)I"⟩
abbrev cX4_part : ByteArray := prog_1_method_32_code
def yX4_part : MethodName := ⟨RX4, "part", "(II)I"⟩
abbrev cX4_partShift : ByteArray := prog_1_method_33_code
def yX4_partShift : MethodName := ⟨RX4, "partShift", "(I)I"⟩
abbrev cX4_mainPart : ByteArray := prog_1_method_34_code
def yX4_mainPart : MethodName := ⟨RX4, "mainPart", "(I)I"⟩
abbrev cX4_spillIn : ByteArray := prog_1_method_35_code
def yX4_spillIn : MethodName := ⟨RX4, "spillIn", "(II)I"⟩
abbrev cX4_distance : ByteArray := prog_1_method_36_code
def yX4_distance : MethodName := ⟨RX4, "distance", "(II)I"⟩
abbrev cX4_composedColour : ByteArray := prog_1_method_37_code
def yX4_composedColour : MethodName := ⟨RX4, "composedColour", "(III)I"⟩
abbrev cX4_sum : ByteArray := prog_1_method_38_code
def yX4_sum : MethodName := ⟨RX4, "sum", "([I)I"⟩
abbrev cX4_sameColours : ByteArray := prog_1_method_39_code
def yX4_sameColours : MethodName := ⟨RX4, "sameColours", "([I[I)I"⟩
def RX5 : String := "GlassSpillModel"
def TX5 : u_T := fun k => match k with
  | _ => ("", "", "", false)
def tyX5 : Nat → FieldType := fun k => match k with
  | _ => .int
abbrev wsX50 : List Cond := u_ws RX5 TX5 0
theorem nmX5 : ∀ a, a < 0 → ∀ b, b < 0 → a ≠ b → (TX5 a).2.1 ≠ (TX5 b).2.1 := by decide +kernel
theorem tyX5_ok : ∀ k, k < 0 → parseFieldDescriptor (TX5 k).2.2.1 = some (tyX5 k) := by decide +kernel
def RJ9 : String := "java/lang/Math"
def TJ9 : u_T := fun k => match k with
  | _ => ("", "", "", false)
def tyJ9 : Nat → FieldType := fun k => match k with
  | _ => .int
abbrev wsJ90 : List Cond := u_ws RJ9 TJ9 0
theorem nmJ9 : ∀ a, a < 0 → ∀ b, b < 0 → a ≠ b → (TJ9 a).2.1 ≠ (TJ9 b).2.1 := by decide +kernel
theorem tyJ9_ok : ∀ k, k < 0 → parseFieldDescriptor (TJ9 k).2.2.1 = some (tyJ9 k) := by decide +kernel
abbrev cJ9_floorMod_7cf53 : ByteArray := prog_8_method_50_code
def yJ9_floorMod_7cf53 : MethodName := ⟨RJ9, "floorMod", "(II)I"⟩
abbrev cJ9_abs_0f7a4 : ByteArray := prog_8_method_59_code
def yJ9_abs_0f7a4 : MethodName := ⟨RJ9, "abs", "(I)I"⟩
abbrev cJ9_max_7cf53 : ByteArray := prog_8_method_65_code
def yJ9_max_7cf53 : MethodName := ⟨RJ9, "max", "(II)I"⟩
abbrev cJ9_min_7cf53 : ByteArray := prog_8_method_69_code
def yJ9_min_7cf53 : MethodName := ⟨RJ9, "min", "(II)I"⟩
def RJ10 : String := "java/lang/System"
def TJ10 : u_T := fun k => match k with
  | _ => ("", "", "", false)
def tyJ10 : Nat → FieldType := fun k => match k with
  | _ => .int
abbrev wsJ100 : List Cond := u_ws RJ10 TJ10 0
theorem nmJ10 : ∀ a, a < 0 → ∀ b, b < 0 → a ≠ b → (TJ10 a).2.1 ≠ (TJ10 b).2.1 := by decide +kernel
theorem tyJ10_ok : ∀ k, k < 0 → parseFieldDescriptor (TJ10 k).2.2.1 = some (tyJ10 k) := by decide +kernel
def RL : String := "GlassSpillLaw"
abbrev cL_cell : ByteArray := method_2_code
def yL_cell : MethodName := ⟨RL, "cell", "([II)I"⟩
abbrev cL_up : ByteArray := method_3_code
def yL_up : MethodName := ⟨RL, "up", "(II)I"⟩
abbrev cL_there : ByteArray := method_4_code
def yL_there : MethodName := ⟨RL, "there", "(I)I"⟩
abbrev cL_digit : ByteArray := method_5_code
def yL_digit : MethodName := ⟨RL, "digit", "(LGlassSpill;I)Z"⟩
abbrev cL_isRead : ByteArray := method_6_code
def yL_isRead : MethodName := ⟨RL, "isRead", "(LGlassSpill;LGlassSpill;ZIII)Z"⟩
abbrev cL_isStep : ByteArray := method_7_code
def yL_isStep : MethodName := ⟨RL, "isStep", "(LGlassSpill;LGlassSpill;II)Z"⟩
abbrev cL_areAlike : ByteArray := method_8_code
def yL_areAlike : MethodName := ⟨RL, "areAlike", "(LGlassSpill;LGlassSpill;I)Z"⟩
abbrev cL_isWell : ByteArray := method_9_code
def yL_isWell : MethodName := ⟨RL, "isWell", "(LGlassSpill;)Z"⟩
abbrev cL_law : ByteArray := code
def yL_law : MethodName := ⟨RL, "law", "([I)Z"⟩
def wsX2_init : List Cond := .code yX2_init cX2_init 1 none :: ([.methodLink RX2 3 objectInit, .instanceMethod objectInit, .code objectInit ⟨#[0xb1]⟩ 1 none, .arrayClass .int, .fieldLink RX2 9 "GlassSpill$Scene" "settings" "[I", .fieldLink RX2 15 "GlassSpill$Scene" "front" "[I", .fieldLink RX2 18 "GlassSpill$Scene" "back" "[I", .arrayClass .boolean, .fieldLink RX2 21 "GlassSpill$Scene" "glass" "[Z", .fieldLink RX2 25 "GlassSpill$Scene" "screenColour" "I", .methodLink RX2 32 arraycopyName, .native arraycopyName, .static arraycopyName, .initialized "java/lang/System"] ++ wsX20)
def wsX0_init : List Cond := .code yX0_init cX0_init 2 none :: ([.methodLink RX0 3 objectInit, .instanceMethod objectInit, .code objectInit ⟨#[0xb1]⟩ 1 none, .classLink RX0 9 RX2, .fieldLink RX0 11 "GlassSpill$History" "states" "[LGlassSpill$Scene;", .fieldLink RX0 17 "GlassSpill$History" "oldest" "I", .fieldLink RX0 21 "GlassSpill$History" "size" "I", .instantiable RX2 5, .initialized RX2, .methodLink RX0 24 yX2_init, .instanceMethod yX2_init, .code yX2_init cX2_init 1 none, .methodLink RX2 3 objectInit, .arrayClass .int, .fieldLink RX2 9 "GlassSpill$Scene" "settings" "[I", .fieldLink RX2 15 "GlassSpill$Scene" "front" "[I", .fieldLink RX2 18 "GlassSpill$Scene" "back" "[I", .arrayClass .boolean, .fieldLink RX2 21 "GlassSpill$Scene" "glass" "[Z", .fieldLink RX2 25 "GlassSpill$Scene" "screenColour" "I", .methodLink RX2 32 arraycopyName, .native arraycopyName, .static arraycopyName, .initialized "java/lang/System"] ++ wsX00 ++ wsX20)
def wsJ9_floorMod_7cf53 : List Cond := .code yJ9_floorMod_7cf53 cJ9_floorMod_7cf53 3 (some .int) :: ([])
def wsX2_copyFrom : List Cond := .code yX2_copyFrom cX2_copyFrom 3 none :: ([.fieldLink RX2 9 "GlassSpill$Scene" "settings" "[I", .methodLink RX2 32 arraycopyName, .native arraycopyName, .static arraycopyName, .initialized "java/lang/System", .fieldLink RX2 15 "GlassSpill$Scene" "front" "[I", .fieldLink RX2 18 "GlassSpill$Scene" "back" "[I", .fieldLink RX2 21 "GlassSpill$Scene" "glass" "[Z", .fieldLink RX2 25 "GlassSpill$Scene" "screenColour" "I"] ++ wsX20)
def wsX0_remember : List Cond := .code yX0_remember cX0_remember 3 none :: ([.fieldLink RX0 11 "GlassSpill$History" "states" "[LGlassSpill$Scene;", .fieldLink RX0 17 "GlassSpill$History" "oldest" "I", .fieldLink RX0 21 "GlassSpill$History" "size" "I", .methodLink RX0 25 yJ9_floorMod_7cf53, .static yJ9_floorMod_7cf53, .initialized RJ9, .code yJ9_floorMod_7cf53 cJ9_floorMod_7cf53 3 (some .int), .methodLink RX0 31 yX2_copyFrom, .instanceMethod yX2_copyFrom, .selects RX2 yX2_copyFrom yX2_copyFrom, .initialized RX2, .code yX2_copyFrom cX2_copyFrom 3 none, .fieldLink RX2 9 "GlassSpill$Scene" "settings" "[I", .methodLink RX2 32 arraycopyName, .native arraycopyName, .static arraycopyName, .initialized "java/lang/System", .fieldLink RX2 15 "GlassSpill$Scene" "front" "[I", .fieldLink RX2 18 "GlassSpill$Scene" "back" "[I", .fieldLink RX2 21 "GlassSpill$Scene" "glass" "[Z", .fieldLink RX2 25 "GlassSpill$Scene" "screenColour" "I"] ++ wsX00 ++ wsX20)
def wsX0_takeBack : List Cond := .code yX0_takeBack cX0_takeBack 3 none :: ([.fieldLink RX0 21 "GlassSpill$History" "size" "I", .fieldLink RX0 11 "GlassSpill$History" "states" "[LGlassSpill$Scene;", .fieldLink RX0 17 "GlassSpill$History" "oldest" "I", .methodLink RX0 25 yJ9_floorMod_7cf53, .static yJ9_floorMod_7cf53, .initialized RJ9, .code yJ9_floorMod_7cf53 cJ9_floorMod_7cf53 3 (some .int), .methodLink RX0 31 yX2_copyFrom, .instanceMethod yX2_copyFrom, .selects RX2 yX2_copyFrom yX2_copyFrom, .initialized RX2, .code yX2_copyFrom cX2_copyFrom 3 none, .fieldLink RX2 9 "GlassSpill$Scene" "settings" "[I", .methodLink RX2 32 arraycopyName, .native arraycopyName, .static arraycopyName, .initialized "java/lang/System", .fieldLink RX2 15 "GlassSpill$Scene" "front" "[I", .fieldLink RX2 18 "GlassSpill$Scene" "back" "[I", .fieldLink RX2 21 "GlassSpill$Scene" "glass" "[Z", .fieldLink RX2 25 "GlassSpill$Scene" "screenColour" "I"] ++ wsX00 ++ wsX20)
def wsX1_init : List Cond := .code yX1_init cX1_init 1 none :: ([.methodLink RX1 3 objectInit, .instanceMethod objectInit, .code objectInit ⟨#[0xb1]⟩ 1 none, .arrayClass .int, .fieldLink RX1 9 "GlassSpill$Pad" "codes" "[I", .fieldLink RX1 15 "GlassSpill$Pad" "length" "I"] ++ wsX10)
def wsX1_append : List Cond := .code yX1_append cX1_append 5 none :: ([.fieldLink RX1 15 "GlassSpill$Pad" "length" "I", .fieldLink RX1 9 "GlassSpill$Pad" "codes" "[I", .constantLong RX1 19 (255)] ++ wsX10)
def wsX1_partOf : List Cond := .code yX1_partOf cX1_partOf 1 (some .int) :: ([])
def wsX1_firstFault : List Cond := .code yX1_firstFault cX1_firstFault 4 (some .int) :: ([.fieldLink RX1 15 "GlassSpill$Pad" "length" "I", .fieldLink RX1 9 "GlassSpill$Pad" "codes" "[I", .methodLink RX1 21 yX1_partOf, .static yX1_partOf, .initialized RX1, .code yX1_partOf cX1_partOf 1 (some .int)] ++ wsX10)
def wsX4_isPixel : List Cond := .code yX4_isPixel cX4_isPixel 1 (some .boolean) :: ([])
def wsX1_paintOn : List Cond := .code yX1_paintOn cX1_paintOn 8 (some .int) :: ([.fieldLink RX1 15 "GlassSpill$Pad" "length" "I", .fieldLink RX1 9 "GlassSpill$Pad" "codes" "[I", .methodLink RX1 21 yX1_partOf, .static yX1_partOf, .initialized RX1, .code yX1_partOf cX1_partOf 1 (some .int), .static yX4_isPixel, .initialized RX4, .code yX4_isPixel cX4_isPixel 1 (some .boolean)] ++ wsX10)
def wsX4_isSetting : List Cond := .code yX4_isSetting cX4_isSetting 1 (some .boolean) :: ([])
def wsX2_changeSetting : List Cond := .code yX2_changeSetting cX2_changeSetting 4 (some .int) :: ([.fieldLink RX2 9 "GlassSpill$Scene" "settings" "[I", .static yX4_isSetting, .initialized RX4, .code yX4_isSetting cX4_isSetting 1 (some .boolean)] ++ wsX20)
def wsX2_picture : List Cond := .code yX2_picture cX2_picture 2 (some (.array .int)) :: ([.fieldLink RX2 15 "GlassSpill$Scene" "front" "[I", .fieldLink RX2 18 "GlassSpill$Scene" "back" "[I"] ++ wsX20)
def wsX4_partShift : List Cond := .code yX4_partShift cX4_partShift 1 (some .int) :: ([])
def wsX4_part : List Cond := .code yX4_part cX4_part 2 (some .int) :: ([.methodLink RX4 193 yX4_partShift, .static yX4_partShift, .initialized RX4, .code yX4_partShift cX4_partShift 1 (some .int)])
def wsX4_distance : List Cond := .code yX4_distance cX4_distance 4 (some .int) :: ([.methodLink RX4 199 Lib.Math.abs.name, .static Lib.Math.abs.name, .initialized "java/lang/Math", .code Lib.Math.abs.name Lib.Math.abs.code 1 (some .int), .methodLink RX4 196 yX4_part, .static yX4_part, .initialized RX4, .code yX4_part cX4_part 2 (some .int), .methodLink RX4 193 yX4_partShift, .static yX4_partShift, .code yX4_partShift cX4_partShift 1 (some .int)])
def wsX2_distanceOf : List Cond := .code yX2_distanceOf cX2_distanceOf 2 (some .int) :: ([.fieldLink RX2 15 "GlassSpill$Scene" "front" "[I", .fieldLink RX2 25 "GlassSpill$Scene" "screenColour" "I", .static yX4_isPixel, .initialized RX4, .code yX4_isPixel cX4_isPixel 1 (some .boolean), .static yX4_distance, .code yX4_distance cX4_distance 4 (some .int), .methodLink RX4 199 Lib.Math.abs.name, .static Lib.Math.abs.name, .initialized "java/lang/Math", .code Lib.Math.abs.name Lib.Math.abs.code 1 (some .int), .methodLink RX4 196 yX4_part, .static yX4_part, .code yX4_part cX4_part 2 (some .int), .methodLink RX4 193 yX4_partShift, .static yX4_partShift, .code yX4_partShift cX4_partShift 1 (some .int)] ++ wsX20)
def wsX2_marked : List Cond := .code yX2_marked cX2_marked 3 (some .int) :: ([.fieldLink RX2 21 "GlassSpill$Scene" "glass" "[Z"] ++ wsX20)
def wsX3_init : List Cond := .code yX3_init cX3_init 1 none :: ([.methodLink RX3 3 objectInit, .instanceMethod objectInit, .code objectInit ⟨#[0xb1]⟩ 1 none, .arrayClass .int, .fieldLink RX3 9 "GlassSpill$View" "raw" "[I", .fieldLink RX3 15 "GlassSpill$View" "opaque" "[I", .fieldLink RX3 18 "GlassSpill$View" "kinds" "[I", .fieldLink RX3 21 "GlassSpill$View" "spill" "[I", .fieldLink RX3 24 "GlassSpill$View" "taken" "[I", .fieldLink RX3 27 "GlassSpill$View" "cleaned" "[I", .fieldLink RX3 30 "GlassSpill$View" "composed" "[I", .arrayClass .boolean, .fieldLink RX3 33 "GlassSpill$View" "reached" "[Z", .fieldLink RX3 37 "GlassSpill$View" "queue" "[I", .fieldLink RX3 40 "GlassSpill$View" "queued" "I"] ++ wsX30)
def wsX3_rawOpaque : List Cond := .code yX3_rawOpaque cX3_rawOpaque 3 (some .int) :: ([])
def wsX4_isAtEdge : List Cond := .code yX4_isAtEdge cX4_isAtEdge 3 (some .boolean) :: ([])
def wsX3_reach : List Cond := .code yX3_reach cX3_reach 2 none :: ([.fieldLink RX3 9 "GlassSpill$View" "raw" "[I", .fieldLink RX3 33 "GlassSpill$View" "reached" "[Z", .fieldLink RX3 40 "GlassSpill$View" "queued" "I", .fieldLink RX3 37 "GlassSpill$View" "queue" "[I", .static yX4_isPixel, .initialized RX4, .code yX4_isPixel cX4_isPixel 1 (some .boolean)] ++ wsX30)
def wsX4_beside : List Cond := .code yX4_beside cX4_beside 3 (some .int) :: ([])
def wsX3_reachFromEdge : List Cond := .code yX3_reachFromEdge cX3_reachFromEdge 3 none :: ([.fieldLink RX3 40 "GlassSpill$View" "queued" "I", .fieldLink RX3 33 "GlassSpill$View" "reached" "[Z", .fieldLink RX3 37 "GlassSpill$View" "queue" "[I", .static yX4_isAtEdge, .initialized RX4, .code yX4_isAtEdge cX4_isAtEdge 3 (some .boolean), .methodLink RX3 90 yX3_reach, .instanceMethod yX3_reach, .selects RX3 yX3_reach yX3_reach, .initialized RX3, .code yX3_reach cX3_reach 2 none, .fieldLink RX3 9 "GlassSpill$View" "raw" "[I", .static yX4_isPixel, .code yX4_isPixel cX4_isPixel 1 (some .boolean), .static yX4_beside, .code yX4_beside cX4_beside 3 (some .int)] ++ wsX30)
def wsX3_closeHoles : List Cond := .code yX3_closeHoles cX3_closeHoles 2 none :: ([.fieldLink RX3 33 "GlassSpill$View" "reached" "[Z", .fieldLink RX3 15 "GlassSpill$View" "opaque" "[I", .methodLink RX3 83 yX3_reachFromEdge, .instanceMethod yX3_reachFromEdge, .selects RX3 yX3_reachFromEdge yX3_reachFromEdge, .initialized RX3, .code yX3_reachFromEdge cX3_reachFromEdge 3 none, .fieldLink RX3 40 "GlassSpill$View" "queued" "I", .fieldLink RX3 37 "GlassSpill$View" "queue" "[I", .static yX4_isAtEdge, .initialized RX4, .code yX4_isAtEdge cX4_isAtEdge 3 (some .boolean), .methodLink RX3 90 yX3_reach, .instanceMethod yX3_reach, .selects RX3 yX3_reach yX3_reach, .code yX3_reach cX3_reach 2 none, .fieldLink RX3 9 "GlassSpill$View" "raw" "[I", .static yX4_isPixel, .code yX4_isPixel cX4_isPixel 1 (some .boolean), .static yX4_beside, .code yX4_beside cX4_beside 3 (some .int)] ++ wsX30)
def wsX3_findOpaque_r1 : List Cond := [Cond.fieldLink RX3 70 "GlassSpill$Scene" "settings" "[I", Cond.fieldLink RX3 9 "GlassSpill$View" "raw" "[I", Cond.fieldLink RX3 15 "GlassSpill$View" "opaque" "[I", Cond.methodLink RX3 73 yX2_distanceOf, Cond.instanceMethod yX2_distanceOf, Cond.selects RX2 yX2_distanceOf yX2_distanceOf, Cond.initialized RX2, Cond.code yX2_distanceOf cX2_distanceOf 2 (some .int), Cond.fieldLink RX2 15 "GlassSpill$Scene" "front" "[I", Cond.fieldLink RX2 25 "GlassSpill$Scene" "screenColour" "I", Cond.static yX4_isPixel, Cond.initialized RX4, Cond.code yX4_isPixel cX4_isPixel 1 (some .boolean), Cond.static yX4_distance, Cond.code yX4_distance cX4_distance 4 (some .int), Cond.methodLink RX4 199 Lib.Math.abs.name, Cond.static Lib.Math.abs.name, Cond.initialized "java/lang/Math", Cond.code Lib.Math.abs.name Lib.Math.abs.code 1 (some .int), Cond.methodLink RX4 196 yX4_part, Cond.static yX4_part, Cond.code yX4_part cX4_part 2 (some .int), Cond.methodLink RX4 193 yX4_partShift, Cond.static yX4_partShift]
def wsX3_findOpaque_r2 : List Cond := [Cond.code yX4_partShift cX4_partShift 1 (some .int), Cond.methodLink RX3 76 yX3_rawOpaque, Cond.static yX3_rawOpaque, Cond.initialized RX3, Cond.code yX3_rawOpaque cX3_rawOpaque 3 (some .int), Cond.methodLink RX3 80 yX3_closeHoles, Cond.instanceMethod yX3_closeHoles, Cond.selects RX3 yX3_closeHoles yX3_closeHoles, Cond.code yX3_closeHoles cX3_closeHoles 2 none, Cond.fieldLink RX3 33 "GlassSpill$View" "reached" "[Z", Cond.methodLink RX3 83 yX3_reachFromEdge, Cond.instanceMethod yX3_reachFromEdge, Cond.selects RX3 yX3_reachFromEdge yX3_reachFromEdge, Cond.code yX3_reachFromEdge cX3_reachFromEdge 3 none, Cond.fieldLink RX3 40 "GlassSpill$View" "queued" "I", Cond.fieldLink RX3 37 "GlassSpill$View" "queue" "[I", Cond.static yX4_isAtEdge, Cond.code yX4_isAtEdge cX4_isAtEdge 3 (some .boolean), Cond.methodLink RX3 90 yX3_reach, Cond.instanceMethod yX3_reach, Cond.selects RX3 yX3_reach yX3_reach, Cond.code yX3_reach cX3_reach 2 none, Cond.static yX4_beside, Cond.code yX4_beside cX4_beside 3 (some .int)]
def wsX3_findOpaque : List Cond := .code yX3_findOpaque cX3_findOpaque 5 none :: ((wsX3_findOpaque_r1 ++ wsX3_findOpaque_r2) ++ wsX20 ++ wsX30)
def wsX3_isOneBeside : List Cond := .code yX3_isOneBeside cX3_isOneBeside 5 (some .boolean) :: ([.fieldLink RX3 15 "GlassSpill$View" "opaque" "[I", .static yX4_beside, .initialized RX4, .code yX4_beside cX4_beside 3 (some .int), .static yX4_isPixel, .code yX4_isPixel cX4_isPixel 1 (some .boolean)] ++ wsX30)
def wsX3_unmarkedKind : List Cond := .code yX3_unmarkedKind cX3_unmarkedKind 2 (some .int) :: ([.fieldLink RX3 15 "GlassSpill$View" "opaque" "[I", .static yX4_isPixel, .initialized RX4, .code yX4_isPixel cX4_isPixel 1 (some .boolean), .methodLink RX3 103 yX3_isOneBeside, .instanceMethod yX3_isOneBeside, .selects RX3 yX3_isOneBeside yX3_isOneBeside, .initialized RX3, .code yX3_isOneBeside cX3_isOneBeside 5 (some .boolean), .static yX4_beside, .code yX4_beside cX4_beside 3 (some .int)] ++ wsX30)
def wsX3_findKinds : List Cond := .code yX3_findKinds cX3_findKinds 3 none :: ([.fieldLink RX3 18 "GlassSpill$View" "kinds" "[I", .fieldLink RX3 54 "GlassSpill$Scene" "glass" "[Z", .methodLink RX3 100 yX3_unmarkedKind, .instanceMethod yX3_unmarkedKind, .selects RX3 yX3_unmarkedKind yX3_unmarkedKind, .initialized RX3, .code yX3_unmarkedKind cX3_unmarkedKind 2 (some .int), .fieldLink RX3 15 "GlassSpill$View" "opaque" "[I", .static yX4_isPixel, .initialized RX4, .code yX4_isPixel cX4_isPixel 1 (some .boolean), .methodLink RX3 103 yX3_isOneBeside, .instanceMethod yX3_isOneBeside, .selects RX3 yX3_isOneBeside yX3_isOneBeside, .code yX3_isOneBeside cX3_isOneBeside 5 (some .boolean), .static yX4_beside, .code yX4_beside cX4_beside 3 (some .int)] ++ wsX30 ++ wsX20)
def wsX4_mainPart : List Cond := .code yX4_mainPart cX4_mainPart 3 (some .int) :: ([.methodLink RX4 196 yX4_part, .static yX4_part, .initialized RX4, .code yX4_part cX4_part 2 (some .int), .methodLink RX4 193 yX4_partShift, .static yX4_partShift, .code yX4_partShift cX4_partShift 1 (some .int)])
def wsX4_spillIn : List Cond := .code yX4_spillIn cX4_spillIn 4 (some .int) :: ([.methodLink RX4 190 Lib.Math.max.name, .static Lib.Math.max.name, .initialized "java/lang/Math", .code Lib.Math.max.name Lib.Math.max.code 2 (some .int), .methodLink RX4 196 yX4_part, .static yX4_part, .initialized RX4, .code yX4_part cX4_part 2 (some .int), .methodLink RX4 193 yX4_partShift, .static yX4_partShift, .code yX4_partShift cX4_partShift 1 (some .int)])
def wsX3_share : List Cond := .code yX3_share cX3_share 2 (some .int) :: ([.fieldLink RX3 70 "GlassSpill$Scene" "settings" "[I"] ++ wsX20)
def wsX4_composedColour : List Cond := .code yX4_composedColour cX4_composedColour 6 (some .int) :: ([.methodLink RX4 196 yX4_part, .static yX4_part, .initialized RX4, .code yX4_part cX4_part 2 (some .int), .methodLink RX4 193 yX4_partShift, .static yX4_partShift, .code yX4_partShift cX4_partShift 1 (some .int)])
def wsX3_compose_r1 : List Cond := [Cond.fieldLink RX3 59 "GlassSpill$Scene" "screenColour" "I", Cond.fieldLink RX3 21 "GlassSpill$View" "spill" "[I", Cond.fieldLink RX3 107 "GlassSpill$Scene" "front" "[I", Cond.fieldLink RX3 24 "GlassSpill$View" "taken" "[I", Cond.fieldLink RX3 18 "GlassSpill$View" "kinds" "[I", Cond.fieldLink RX3 27 "GlassSpill$View" "cleaned" "[I", Cond.fieldLink RX3 30 "GlassSpill$View" "composed" "[I", Cond.fieldLink RX3 117 "GlassSpill$Scene" "back" "[I", Cond.fieldLink RX3 15 "GlassSpill$View" "opaque" "[I", Cond.static yX4_mainPart, Cond.initialized RX4, Cond.code yX4_mainPart cX4_mainPart 3 (some .int), Cond.methodLink RX4 196 yX4_part, Cond.static yX4_part, Cond.code yX4_part cX4_part 2 (some .int), Cond.methodLink RX4 193 yX4_partShift, Cond.static yX4_partShift, Cond.code yX4_partShift cX4_partShift 1 (some .int), Cond.static yX4_spillIn, Cond.code yX4_spillIn cX4_spillIn 4 (some .int), Cond.methodLink RX4 190 Lib.Math.max.name, Cond.static Lib.Math.max.name, Cond.initialized "java/lang/Math", Cond.code Lib.Math.max.name Lib.Math.max.code 2 (some .int)]
def wsX3_compose_r2 : List Cond := [Cond.methodLink RX3 110 yX3_share, Cond.static yX3_share, Cond.initialized RX3, Cond.code yX3_share cX3_share 2 (some .int), Cond.fieldLink RX3 70 "GlassSpill$Scene" "settings" "[I", Cond.static yX4_composedColour, Cond.code yX4_composedColour cX4_composedColour 6 (some .int)]
def wsX3_compose : List Cond := .code yX3_compose cX3_compose 4 none :: ((wsX3_compose_r1 ++ wsX3_compose_r2) ++ wsX20 ++ wsX30)
def wsX3_show_r1 : List Cond := [Cond.methodLink RX3 44 yX3_findOpaque, Cond.instanceMethod yX3_findOpaque, Cond.selects RX3 yX3_findOpaque yX3_findOpaque, Cond.initialized RX3, Cond.code yX3_findOpaque cX3_findOpaque 5 none, Cond.fieldLink RX3 70 "GlassSpill$Scene" "settings" "[I", Cond.fieldLink RX3 9 "GlassSpill$View" "raw" "[I", Cond.fieldLink RX3 15 "GlassSpill$View" "opaque" "[I", Cond.methodLink RX3 73 yX2_distanceOf, Cond.instanceMethod yX2_distanceOf, Cond.selects RX2 yX2_distanceOf yX2_distanceOf, Cond.initialized RX2, Cond.code yX2_distanceOf cX2_distanceOf 2 (some .int), Cond.fieldLink RX2 15 "GlassSpill$Scene" "front" "[I", Cond.fieldLink RX2 25 "GlassSpill$Scene" "screenColour" "I", Cond.static yX4_isPixel, Cond.initialized RX4, Cond.code yX4_isPixel cX4_isPixel 1 (some .boolean), Cond.static yX4_distance, Cond.code yX4_distance cX4_distance 4 (some .int), Cond.methodLink RX4 199 Lib.Math.abs.name, Cond.static Lib.Math.abs.name, Cond.initialized "java/lang/Math", Cond.code Lib.Math.abs.name Lib.Math.abs.code 1 (some .int)]
def wsX3_show_r2 : List Cond := [Cond.methodLink RX4 196 yX4_part, Cond.static yX4_part, Cond.code yX4_part cX4_part 2 (some .int), Cond.methodLink RX4 193 yX4_partShift, Cond.static yX4_partShift, Cond.code yX4_partShift cX4_partShift 1 (some .int), Cond.methodLink RX3 76 yX3_rawOpaque, Cond.static yX3_rawOpaque, Cond.code yX3_rawOpaque cX3_rawOpaque 3 (some .int), Cond.methodLink RX3 80 yX3_closeHoles, Cond.instanceMethod yX3_closeHoles, Cond.selects RX3 yX3_closeHoles yX3_closeHoles, Cond.code yX3_closeHoles cX3_closeHoles 2 none, Cond.fieldLink RX3 33 "GlassSpill$View" "reached" "[Z", Cond.methodLink RX3 83 yX3_reachFromEdge, Cond.instanceMethod yX3_reachFromEdge, Cond.selects RX3 yX3_reachFromEdge yX3_reachFromEdge, Cond.code yX3_reachFromEdge cX3_reachFromEdge 3 none, Cond.fieldLink RX3 40 "GlassSpill$View" "queued" "I", Cond.fieldLink RX3 37 "GlassSpill$View" "queue" "[I", Cond.static yX4_isAtEdge, Cond.code yX4_isAtEdge cX4_isAtEdge 3 (some .boolean), Cond.methodLink RX3 90 yX3_reach, Cond.instanceMethod yX3_reach]
def wsX3_show_r3 : List Cond := [Cond.selects RX3 yX3_reach yX3_reach, Cond.code yX3_reach cX3_reach 2 none, Cond.static yX4_beside, Cond.code yX4_beside cX4_beside 3 (some .int), Cond.methodLink RX3 48 yX3_findKinds, Cond.instanceMethod yX3_findKinds, Cond.selects RX3 yX3_findKinds yX3_findKinds, Cond.code yX3_findKinds cX3_findKinds 3 none, Cond.fieldLink RX3 18 "GlassSpill$View" "kinds" "[I", Cond.fieldLink RX3 54 "GlassSpill$Scene" "glass" "[Z", Cond.methodLink RX3 100 yX3_unmarkedKind, Cond.instanceMethod yX3_unmarkedKind, Cond.selects RX3 yX3_unmarkedKind yX3_unmarkedKind, Cond.code yX3_unmarkedKind cX3_unmarkedKind 2 (some .int), Cond.methodLink RX3 103 yX3_isOneBeside, Cond.instanceMethod yX3_isOneBeside, Cond.selects RX3 yX3_isOneBeside yX3_isOneBeside, Cond.code yX3_isOneBeside cX3_isOneBeside 5 (some .boolean), Cond.methodLink RX3 51 yX3_compose, Cond.instanceMethod yX3_compose, Cond.selects RX3 yX3_compose yX3_compose, Cond.code yX3_compose cX3_compose 4 none, Cond.fieldLink RX3 59 "GlassSpill$Scene" "screenColour" "I", Cond.fieldLink RX3 21 "GlassSpill$View" "spill" "[I"]
def wsX3_show_r4 : List Cond := [Cond.fieldLink RX3 107 "GlassSpill$Scene" "front" "[I", Cond.fieldLink RX3 24 "GlassSpill$View" "taken" "[I", Cond.fieldLink RX3 27 "GlassSpill$View" "cleaned" "[I", Cond.fieldLink RX3 30 "GlassSpill$View" "composed" "[I", Cond.fieldLink RX3 117 "GlassSpill$Scene" "back" "[I", Cond.static yX4_mainPart, Cond.code yX4_mainPart cX4_mainPart 3 (some .int), Cond.static yX4_spillIn, Cond.code yX4_spillIn cX4_spillIn 4 (some .int), Cond.methodLink RX4 190 Lib.Math.max.name, Cond.static Lib.Math.max.name, Cond.code Lib.Math.max.name Lib.Math.max.code 2 (some .int), Cond.methodLink RX3 110 yX3_share, Cond.static yX3_share, Cond.code yX3_share cX3_share 2 (some .int), Cond.static yX4_composedColour, Cond.code yX4_composedColour cX4_composedColour 6 (some .int)]
def wsX3_show : List Cond := .code yX3_show cX3_show 2 none :: ((wsX3_show_r1 ++ (wsX3_show_r2 ++ (wsX3_show_r3 ++ wsX3_show_r4))) ++ wsX20 ++ wsX30)
def wsX3_clearPixels_r1 : List Cond := [Cond.fieldLink RX3 15 "GlassSpill$View" "opaque" "[I", Cond.fieldLink RX3 54 "GlassSpill$Scene" "glass" "[Z", Cond.methodLink RX3 44 yX3_findOpaque, Cond.instanceMethod yX3_findOpaque, Cond.selects RX3 yX3_findOpaque yX3_findOpaque, Cond.initialized RX3, Cond.code yX3_findOpaque cX3_findOpaque 5 none, Cond.fieldLink RX3 70 "GlassSpill$Scene" "settings" "[I", Cond.fieldLink RX3 9 "GlassSpill$View" "raw" "[I", Cond.methodLink RX3 73 yX2_distanceOf, Cond.instanceMethod yX2_distanceOf, Cond.selects RX2 yX2_distanceOf yX2_distanceOf, Cond.initialized RX2, Cond.code yX2_distanceOf cX2_distanceOf 2 (some .int), Cond.fieldLink RX2 15 "GlassSpill$Scene" "front" "[I", Cond.fieldLink RX2 25 "GlassSpill$Scene" "screenColour" "I", Cond.static yX4_isPixel, Cond.initialized RX4, Cond.code yX4_isPixel cX4_isPixel 1 (some .boolean), Cond.static yX4_distance, Cond.code yX4_distance cX4_distance 4 (some .int), Cond.methodLink RX4 199 Lib.Math.abs.name, Cond.static Lib.Math.abs.name, Cond.initialized "java/lang/Math"]
def wsX3_clearPixels_r2 : List Cond := [Cond.code Lib.Math.abs.name Lib.Math.abs.code 1 (some .int), Cond.methodLink RX4 196 yX4_part, Cond.static yX4_part, Cond.code yX4_part cX4_part 2 (some .int), Cond.methodLink RX4 193 yX4_partShift, Cond.static yX4_partShift, Cond.code yX4_partShift cX4_partShift 1 (some .int), Cond.methodLink RX3 76 yX3_rawOpaque, Cond.static yX3_rawOpaque, Cond.code yX3_rawOpaque cX3_rawOpaque 3 (some .int), Cond.methodLink RX3 80 yX3_closeHoles, Cond.instanceMethod yX3_closeHoles, Cond.selects RX3 yX3_closeHoles yX3_closeHoles, Cond.code yX3_closeHoles cX3_closeHoles 2 none, Cond.fieldLink RX3 33 "GlassSpill$View" "reached" "[Z", Cond.methodLink RX3 83 yX3_reachFromEdge, Cond.instanceMethod yX3_reachFromEdge, Cond.selects RX3 yX3_reachFromEdge yX3_reachFromEdge, Cond.code yX3_reachFromEdge cX3_reachFromEdge 3 none, Cond.fieldLink RX3 40 "GlassSpill$View" "queued" "I", Cond.fieldLink RX3 37 "GlassSpill$View" "queue" "[I", Cond.static yX4_isAtEdge, Cond.code yX4_isAtEdge cX4_isAtEdge 3 (some .boolean), Cond.methodLink RX3 90 yX3_reach]
def wsX3_clearPixels_r3 : List Cond := [Cond.instanceMethod yX3_reach, Cond.selects RX3 yX3_reach yX3_reach, Cond.code yX3_reach cX3_reach 2 none, Cond.static yX4_beside, Cond.code yX4_beside cX4_beside 3 (some .int)]
def wsX3_clearPixels : List Cond := .code yX3_clearPixels cX3_clearPixels 4 (some .int) :: ((wsX3_clearPixels_r1 ++ (wsX3_clearPixels_r2 ++ wsX3_clearPixels_r3)) ++ wsX30 ++ wsX20)
def wsX3_ofKind : List Cond := .code yX3_ofKind cX3_ofKind 4 (some .int) :: ([.fieldLink RX3 18 "GlassSpill$View" "kinds" "[I"] ++ wsX30)
def wsX3_closed : List Cond := .code yX3_closed cX3_closed 3 (some .int) :: ([.fieldLink RX3 15 "GlassSpill$View" "opaque" "[I", .fieldLink RX3 9 "GlassSpill$View" "raw" "[I"] ++ wsX30)
def wsX3_spillLeft : List Cond := .code yX3_spillLeft cX3_spillLeft 5 (some .int) :: ([.fieldLink RX3 59 "GlassSpill$Scene" "screenColour" "I", .fieldLink RX3 30 "GlassSpill$View" "composed" "[I", .static yX4_mainPart, .initialized RX4, .code yX4_mainPart cX4_mainPart 3 (some .int), .methodLink RX4 196 yX4_part, .static yX4_part, .code yX4_part cX4_part 2 (some .int), .methodLink RX4 193 yX4_partShift, .static yX4_partShift, .code yX4_partShift cX4_partShift 1 (some .int), .static yX4_spillIn, .code yX4_spillIn cX4_spillIn 4 (some .int), .methodLink RX4 190 Lib.Math.max.name, .static Lib.Math.max.name, .initialized "java/lang/Math", .code Lib.Math.max.name Lib.Math.max.code 2 (some .int)] ++ wsX20 ++ wsX30)
def wsX4_init_r1 : List Cond := [Cond.methodLink RX4 1 objectInit, Cond.instanceMethod objectInit, Cond.code objectInit ⟨#[0xb1]⟩ 1 none, Cond.classLink RX4 7 RX2, Cond.instantiable RX2 5, Cond.initialized RX2, Cond.fieldLink RX4 10 "GlassSpill" "now" "LGlassSpill$Scene;", Cond.fieldLink RX4 16 "GlassSpill" "trial" "LGlassSpill$Scene;", Cond.classLink RX4 19 RX3, Cond.instantiable RX3 10, Cond.initialized RX3, Cond.fieldLink RX4 22 "GlassSpill" "shown" "LGlassSpill$View;", Cond.fieldLink RX4 26 "GlassSpill" "trialView" "LGlassSpill$View;", Cond.classLink RX4 29 RX1, Cond.instantiable RX1 2, Cond.initialized RX1, Cond.fieldLink RX4 32 "GlassSpill" "pad" "LGlassSpill$Pad;", Cond.classLink RX4 36 RX0, Cond.instantiable RX0 3, Cond.initialized RX0, Cond.fieldLink RX4 39 "GlassSpill" "history" "LGlassSpill$History;", Cond.fieldLink RX4 43 "GlassSpill" "slots" "[LGlassSpill$Scene;", Cond.methodLink RX4 9 yX2_init, Cond.instanceMethod yX2_init]
def wsX4_init_r2 : List Cond := [Cond.code yX2_init cX2_init 1 none, Cond.methodLink RX2 3 objectInit, Cond.arrayClass .int, Cond.fieldLink RX2 9 "GlassSpill$Scene" "settings" "[I", Cond.fieldLink RX2 15 "GlassSpill$Scene" "front" "[I", Cond.fieldLink RX2 18 "GlassSpill$Scene" "back" "[I", Cond.arrayClass .boolean, Cond.fieldLink RX2 21 "GlassSpill$Scene" "glass" "[Z", Cond.fieldLink RX2 25 "GlassSpill$Scene" "screenColour" "I", Cond.methodLink RX2 32 arraycopyName, Cond.native arraycopyName, Cond.static arraycopyName, Cond.initialized "java/lang/System", Cond.instanceMethod yX3_init, Cond.code yX3_init cX3_init 1 none, Cond.methodLink RX3 3 objectInit, Cond.fieldLink RX3 9 "GlassSpill$View" "raw" "[I", Cond.fieldLink RX3 15 "GlassSpill$View" "opaque" "[I", Cond.fieldLink RX3 18 "GlassSpill$View" "kinds" "[I", Cond.fieldLink RX3 21 "GlassSpill$View" "spill" "[I", Cond.fieldLink RX3 24 "GlassSpill$View" "taken" "[I", Cond.fieldLink RX3 27 "GlassSpill$View" "cleaned" "[I", Cond.fieldLink RX3 30 "GlassSpill$View" "composed" "[I", Cond.fieldLink RX3 33 "GlassSpill$View" "reached" "[Z"]
def wsX4_init_r3 : List Cond := [Cond.fieldLink RX3 37 "GlassSpill$View" "queue" "[I", Cond.fieldLink RX3 40 "GlassSpill$View" "queued" "I", Cond.instanceMethod yX1_init, Cond.code yX1_init cX1_init 1 none, Cond.methodLink RX1 3 objectInit, Cond.fieldLink RX1 9 "GlassSpill$Pad" "codes" "[I", Cond.fieldLink RX1 15 "GlassSpill$Pad" "length" "I", Cond.methodLink RX4 38 yX0_init, Cond.instanceMethod yX0_init, Cond.code yX0_init cX0_init 2 none, Cond.methodLink RX0 3 objectInit, Cond.classLink RX0 9 RX2, Cond.fieldLink RX0 11 "GlassSpill$History" "states" "[LGlassSpill$Scene;", Cond.fieldLink RX0 17 "GlassSpill$History" "oldest" "I", Cond.fieldLink RX0 21 "GlassSpill$History" "size" "I", Cond.methodLink RX0 24 yX2_init]
def wsX4_init : List Cond := .code yX4_init cX4_init 1 none :: ((wsX4_init_r1 ++ (wsX4_init_r2 ++ wsX4_init_r3)) ++ wsX20 ++ wsX40 ++ wsX30 ++ wsX10 ++ wsX00)
def wsX4_errorOfSetting : List Cond := .code yX4_errorOfSetting cX4_errorOfSetting 5 (some .int) :: ([.fieldLink RX4 180 "GlassSpill" "HIGHEST_VALUES" "[I", .fieldLink RX4 10 "GlassSpill" "now" "LGlassSpill$Scene;", .fieldLink RX4 137 "GlassSpill$Scene" "settings" "[I", .methodLink RX4 177 yX4_isSetting, .static yX4_isSetting, .initialized RX4, .code yX4_isSetting cX4_isSetting 1 (some .boolean)] ++ wsX40 ++ wsX20)
def wsX4_set_r1 : List Cond := [Cond.fieldLink RX4 39 "GlassSpill" "history" "LGlassSpill$History;", Cond.fieldLink RX4 10 "GlassSpill" "now" "LGlassSpill$Scene;", Cond.methodLink RX4 47 yX4_errorOfSetting, Cond.instanceMethod yX4_errorOfSetting, Cond.selects RX4 yX4_errorOfSetting yX4_errorOfSetting, Cond.initialized RX4, Cond.code yX4_errorOfSetting cX4_errorOfSetting 5 (some .int), Cond.fieldLink RX4 180 "GlassSpill" "HIGHEST_VALUES" "[I", Cond.fieldLink RX4 137 "GlassSpill$Scene" "settings" "[I", Cond.methodLink RX4 177 yX4_isSetting, Cond.static yX4_isSetting, Cond.code yX4_isSetting cX4_isSetting 1 (some .boolean), Cond.methodLink RX4 51 yX0_remember, Cond.instanceMethod yX0_remember, Cond.selects RX0 yX0_remember yX0_remember, Cond.initialized RX0, Cond.code yX0_remember cX0_remember 3 none, Cond.fieldLink RX0 11 "GlassSpill$History" "states" "[LGlassSpill$Scene;", Cond.fieldLink RX0 17 "GlassSpill$History" "oldest" "I", Cond.fieldLink RX0 21 "GlassSpill$History" "size" "I", Cond.methodLink RX0 25 yJ9_floorMod_7cf53, Cond.static yJ9_floorMod_7cf53, Cond.initialized RJ9, Cond.code yJ9_floorMod_7cf53 cJ9_floorMod_7cf53 3 (some .int)]
def wsX4_set_r2 : List Cond := [Cond.methodLink RX0 31 yX2_copyFrom, Cond.instanceMethod yX2_copyFrom, Cond.selects RX2 yX2_copyFrom yX2_copyFrom, Cond.initialized RX2, Cond.code yX2_copyFrom cX2_copyFrom 3 none, Cond.fieldLink RX2 9 "GlassSpill$Scene" "settings" "[I", Cond.methodLink RX2 32 arraycopyName, Cond.native arraycopyName, Cond.static arraycopyName, Cond.initialized "java/lang/System", Cond.fieldLink RX2 15 "GlassSpill$Scene" "front" "[I", Cond.fieldLink RX2 18 "GlassSpill$Scene" "back" "[I", Cond.fieldLink RX2 21 "GlassSpill$Scene" "glass" "[Z", Cond.fieldLink RX2 25 "GlassSpill$Scene" "screenColour" "I", Cond.methodLink RX4 55 yX2_changeSetting, Cond.instanceMethod yX2_changeSetting, Cond.selects RX2 yX2_changeSetting yX2_changeSetting, Cond.code yX2_changeSetting cX2_changeSetting 4 (some .int)]
def wsX4_set : List Cond := .code yX4_set cX4_set 4 (some .int) :: ((wsX4_set_r1 ++ wsX4_set_r2) ++ wsX40 ++ wsX20 ++ wsX00)
def wsX4_isColour : List Cond := .code yX4_isColour cX4_isColour 1 (some .boolean) :: ([])
def wsX4_screen_r1 : List Cond := [Cond.fieldLink RX4 39 "GlassSpill" "history" "LGlassSpill$History;", Cond.fieldLink RX4 10 "GlassSpill" "now" "LGlassSpill$Scene;", Cond.fieldLink RX4 62 "GlassSpill$Scene" "screenColour" "I", Cond.methodLink RX4 58 yX4_isColour, Cond.static yX4_isColour, Cond.initialized RX4, Cond.code yX4_isColour cX4_isColour 1 (some .boolean), Cond.methodLink RX4 51 yX0_remember, Cond.instanceMethod yX0_remember, Cond.selects RX0 yX0_remember yX0_remember, Cond.initialized RX0, Cond.code yX0_remember cX0_remember 3 none, Cond.fieldLink RX0 11 "GlassSpill$History" "states" "[LGlassSpill$Scene;", Cond.fieldLink RX0 17 "GlassSpill$History" "oldest" "I", Cond.fieldLink RX0 21 "GlassSpill$History" "size" "I", Cond.methodLink RX0 25 yJ9_floorMod_7cf53, Cond.static yJ9_floorMod_7cf53, Cond.initialized RJ9, Cond.code yJ9_floorMod_7cf53 cJ9_floorMod_7cf53 3 (some .int), Cond.methodLink RX0 31 yX2_copyFrom, Cond.instanceMethod yX2_copyFrom, Cond.selects RX2 yX2_copyFrom yX2_copyFrom, Cond.initialized RX2, Cond.code yX2_copyFrom cX2_copyFrom 3 none]
def wsX4_screen_r2 : List Cond := [Cond.fieldLink RX2 9 "GlassSpill$Scene" "settings" "[I", Cond.methodLink RX2 32 arraycopyName, Cond.native arraycopyName, Cond.static arraycopyName, Cond.initialized "java/lang/System", Cond.fieldLink RX2 15 "GlassSpill$Scene" "front" "[I", Cond.fieldLink RX2 18 "GlassSpill$Scene" "back" "[I", Cond.fieldLink RX2 21 "GlassSpill$Scene" "glass" "[Z", Cond.fieldLink RX2 25 "GlassSpill$Scene" "screenColour" "I"]
def wsX4_screen : List Cond := .code yX4_screen cX4_screen 3 (some .int) :: ((wsX4_screen_r1 ++ wsX4_screen_r2) ++ wsX40 ++ wsX20 ++ wsX00)
def wsX4_paint_r1 : List Cond := [Cond.fieldLink RX4 39 "GlassSpill" "history" "LGlassSpill$History;", Cond.fieldLink RX4 10 "GlassSpill" "now" "LGlassSpill$Scene;", Cond.methodLink RX4 66 yX4_isPixel, Cond.static yX4_isPixel, Cond.initialized RX4, Cond.code yX4_isPixel cX4_isPixel 1 (some .boolean), Cond.methodLink RX4 58 yX4_isColour, Cond.static yX4_isColour, Cond.code yX4_isColour cX4_isColour 1 (some .boolean), Cond.methodLink RX4 51 yX0_remember, Cond.instanceMethod yX0_remember, Cond.selects RX0 yX0_remember yX0_remember, Cond.initialized RX0, Cond.code yX0_remember cX0_remember 3 none, Cond.fieldLink RX0 11 "GlassSpill$History" "states" "[LGlassSpill$Scene;", Cond.fieldLink RX0 17 "GlassSpill$History" "oldest" "I", Cond.fieldLink RX0 21 "GlassSpill$History" "size" "I", Cond.methodLink RX0 25 yJ9_floorMod_7cf53, Cond.static yJ9_floorMod_7cf53, Cond.initialized RJ9, Cond.code yJ9_floorMod_7cf53 cJ9_floorMod_7cf53 3 (some .int), Cond.methodLink RX0 31 yX2_copyFrom, Cond.instanceMethod yX2_copyFrom, Cond.selects RX2 yX2_copyFrom yX2_copyFrom]
def wsX4_paint_r2 : List Cond := [Cond.initialized RX2, Cond.code yX2_copyFrom cX2_copyFrom 3 none, Cond.fieldLink RX2 9 "GlassSpill$Scene" "settings" "[I", Cond.methodLink RX2 32 arraycopyName, Cond.native arraycopyName, Cond.static arraycopyName, Cond.initialized "java/lang/System", Cond.fieldLink RX2 15 "GlassSpill$Scene" "front" "[I", Cond.fieldLink RX2 18 "GlassSpill$Scene" "back" "[I", Cond.fieldLink RX2 21 "GlassSpill$Scene" "glass" "[Z", Cond.fieldLink RX2 25 "GlassSpill$Scene" "screenColour" "I", Cond.methodLink RX4 69 yX2_picture, Cond.instanceMethod yX2_picture, Cond.selects RX2 yX2_picture yX2_picture, Cond.code yX2_picture cX2_picture 2 (some (.array .int))]
def wsX4_paint : List Cond := .code yX4_paint cX4_paint 6 (some .int) :: ((wsX4_paint_r1 ++ wsX4_paint_r2) ++ wsX40 ++ wsX00 ++ wsX20)
def wsX4_fillBetween : List Cond := .code yX4_fillBetween cX4_fillBetween 10 (some .int) :: ([.methodLink RX4 185 Lib.Math.min.name, .static Lib.Math.min.name, .initialized "java/lang/Math", .code Lib.Math.min.name Lib.Math.min.code 2 (some .int), .methodLink RX4 190 Lib.Math.max.name, .static Lib.Math.max.name, .code Lib.Math.max.name Lib.Math.max.code 2 (some .int)])
def wsX4_fill_r1 : List Cond := [Cond.fieldLink RX4 39 "GlassSpill" "history" "LGlassSpill$History;", Cond.fieldLink RX4 10 "GlassSpill" "now" "LGlassSpill$Scene;", Cond.methodLink RX4 66 yX4_isPixel, Cond.static yX4_isPixel, Cond.initialized RX4, Cond.code yX4_isPixel cX4_isPixel 1 (some .boolean), Cond.methodLink RX4 58 yX4_isColour, Cond.static yX4_isColour, Cond.code yX4_isColour cX4_isColour 1 (some .boolean), Cond.methodLink RX4 51 yX0_remember, Cond.instanceMethod yX0_remember, Cond.selects RX0 yX0_remember yX0_remember, Cond.initialized RX0, Cond.code yX0_remember cX0_remember 3 none, Cond.fieldLink RX0 11 "GlassSpill$History" "states" "[LGlassSpill$Scene;", Cond.fieldLink RX0 17 "GlassSpill$History" "oldest" "I", Cond.fieldLink RX0 21 "GlassSpill$History" "size" "I", Cond.methodLink RX0 25 yJ9_floorMod_7cf53, Cond.static yJ9_floorMod_7cf53, Cond.initialized RJ9, Cond.code yJ9_floorMod_7cf53 cJ9_floorMod_7cf53 3 (some .int), Cond.methodLink RX0 31 yX2_copyFrom, Cond.instanceMethod yX2_copyFrom, Cond.selects RX2 yX2_copyFrom yX2_copyFrom]
def wsX4_fill_r2 : List Cond := [Cond.initialized RX2, Cond.code yX2_copyFrom cX2_copyFrom 3 none, Cond.fieldLink RX2 9 "GlassSpill$Scene" "settings" "[I", Cond.methodLink RX2 32 arraycopyName, Cond.native arraycopyName, Cond.static arraycopyName, Cond.initialized "java/lang/System", Cond.fieldLink RX2 15 "GlassSpill$Scene" "front" "[I", Cond.fieldLink RX2 18 "GlassSpill$Scene" "back" "[I", Cond.fieldLink RX2 21 "GlassSpill$Scene" "glass" "[Z", Cond.fieldLink RX2 25 "GlassSpill$Scene" "screenColour" "I", Cond.methodLink RX4 69 yX2_picture, Cond.instanceMethod yX2_picture, Cond.selects RX2 yX2_picture yX2_picture, Cond.code yX2_picture cX2_picture 2 (some (.array .int)), Cond.methodLink RX4 73 yX4_fillBetween, Cond.static yX4_fillBetween, Cond.code yX4_fillBetween cX4_fillBetween 10 (some .int), Cond.methodLink RX4 185 Lib.Math.min.name, Cond.static Lib.Math.min.name, Cond.initialized "java/lang/Math", Cond.code Lib.Math.min.name Lib.Math.min.code 2 (some .int), Cond.methodLink RX4 190 Lib.Math.max.name, Cond.static Lib.Math.max.name]
def wsX4_fill_r3 : List Cond := [Cond.code Lib.Math.max.name Lib.Math.max.code 2 (some .int)]
def wsX4_fill : List Cond := .code yX4_fill cX4_fill 5 (some .int) :: ((wsX4_fill_r1 ++ (wsX4_fill_r2 ++ wsX4_fill_r3)) ++ wsX40 ++ wsX00 ++ wsX20)
def wsX4_isRow : List Cond := .code yX4_isRow cX4_isRow 1 (some .boolean) :: ([])
def wsX4_read_r1 : List Cond := [Cond.fieldLink RX4 32 "GlassSpill" "pad" "LGlassSpill$Pad;", Cond.fieldLink RX4 39 "GlassSpill" "history" "LGlassSpill$History;", Cond.fieldLink RX4 10 "GlassSpill" "now" "LGlassSpill$Scene;", Cond.fieldLink RX4 88 "GlassSpill$Pad" "length" "I", Cond.methodLink RX4 77 yX4_isRow, Cond.static yX4_isRow, Cond.initialized RX4, Cond.code yX4_isRow cX4_isRow 1 (some .boolean), Cond.methodLink RX4 80 yX1_firstFault, Cond.instanceMethod yX1_firstFault, Cond.selects RX1 yX1_firstFault yX1_firstFault, Cond.initialized RX1, Cond.code yX1_firstFault cX1_firstFault 4 (some .int), Cond.fieldLink RX1 15 "GlassSpill$Pad" "length" "I", Cond.fieldLink RX1 9 "GlassSpill$Pad" "codes" "[I", Cond.methodLink RX1 21 yX1_partOf, Cond.static yX1_partOf, Cond.code yX1_partOf cX1_partOf 1 (some .int), Cond.methodLink RX4 51 yX0_remember, Cond.instanceMethod yX0_remember, Cond.selects RX0 yX0_remember yX0_remember, Cond.initialized RX0, Cond.code yX0_remember cX0_remember 3 none, Cond.fieldLink RX0 11 "GlassSpill$History" "states" "[LGlassSpill$Scene;"]
def wsX4_read_r2 : List Cond := [Cond.fieldLink RX0 17 "GlassSpill$History" "oldest" "I", Cond.fieldLink RX0 21 "GlassSpill$History" "size" "I", Cond.methodLink RX0 25 yJ9_floorMod_7cf53, Cond.static yJ9_floorMod_7cf53, Cond.initialized RJ9, Cond.code yJ9_floorMod_7cf53 cJ9_floorMod_7cf53 3 (some .int), Cond.methodLink RX0 31 yX2_copyFrom, Cond.instanceMethod yX2_copyFrom, Cond.selects RX2 yX2_copyFrom yX2_copyFrom, Cond.initialized RX2, Cond.code yX2_copyFrom cX2_copyFrom 3 none, Cond.fieldLink RX2 9 "GlassSpill$Scene" "settings" "[I", Cond.methodLink RX2 32 arraycopyName, Cond.native arraycopyName, Cond.static arraycopyName, Cond.initialized "java/lang/System", Cond.fieldLink RX2 15 "GlassSpill$Scene" "front" "[I", Cond.fieldLink RX2 18 "GlassSpill$Scene" "back" "[I", Cond.fieldLink RX2 21 "GlassSpill$Scene" "glass" "[Z", Cond.fieldLink RX2 25 "GlassSpill$Scene" "screenColour" "I", Cond.methodLink RX4 69 yX2_picture, Cond.instanceMethod yX2_picture, Cond.selects RX2 yX2_picture yX2_picture, Cond.code yX2_picture cX2_picture 2 (some (.array .int))]
def wsX4_read_r3 : List Cond := [Cond.methodLink RX4 84 yX1_paintOn, Cond.instanceMethod yX1_paintOn, Cond.selects RX1 yX1_paintOn yX1_paintOn, Cond.code yX1_paintOn cX1_paintOn 8 (some .int), Cond.static yX4_isPixel, Cond.code yX4_isPixel cX4_isPixel 1 (some .boolean)]
def wsX4_read : List Cond := .code yX4_read cX4_read 4 (some .int) :: ((wsX4_read_r1 ++ (wsX4_read_r2 ++ wsX4_read_r3)) ++ wsX40 ++ wsX10 ++ wsX00 ++ wsX20)
def wsX4_mark_r1 : List Cond := [Cond.fieldLink RX4 10 "GlassSpill" "now" "LGlassSpill$Scene;", Cond.fieldLink RX4 91 "GlassSpill$Scene" "glass" "[Z", Cond.fieldLink RX4 39 "GlassSpill" "history" "LGlassSpill$History;", Cond.methodLink RX4 66 yX4_isPixel, Cond.static yX4_isPixel, Cond.initialized RX4, Cond.code yX4_isPixel cX4_isPixel 1 (some .boolean), Cond.methodLink RX4 51 yX0_remember, Cond.instanceMethod yX0_remember, Cond.selects RX0 yX0_remember yX0_remember, Cond.initialized RX0, Cond.code yX0_remember cX0_remember 3 none, Cond.fieldLink RX0 11 "GlassSpill$History" "states" "[LGlassSpill$Scene;", Cond.fieldLink RX0 17 "GlassSpill$History" "oldest" "I", Cond.fieldLink RX0 21 "GlassSpill$History" "size" "I", Cond.methodLink RX0 25 yJ9_floorMod_7cf53, Cond.static yJ9_floorMod_7cf53, Cond.initialized RJ9, Cond.code yJ9_floorMod_7cf53 cJ9_floorMod_7cf53 3 (some .int), Cond.methodLink RX0 31 yX2_copyFrom, Cond.instanceMethod yX2_copyFrom, Cond.selects RX2 yX2_copyFrom yX2_copyFrom, Cond.initialized RX2, Cond.code yX2_copyFrom cX2_copyFrom 3 none]
def wsX4_mark_r2 : List Cond := [Cond.fieldLink RX2 9 "GlassSpill$Scene" "settings" "[I", Cond.methodLink RX2 32 arraycopyName, Cond.native arraycopyName, Cond.static arraycopyName, Cond.initialized "java/lang/System", Cond.fieldLink RX2 15 "GlassSpill$Scene" "front" "[I", Cond.fieldLink RX2 18 "GlassSpill$Scene" "back" "[I", Cond.fieldLink RX2 21 "GlassSpill$Scene" "glass" "[Z", Cond.fieldLink RX2 25 "GlassSpill$Scene" "screenColour" "I", Cond.methodLink RX4 95 yX2_marked, Cond.instanceMethod yX2_marked, Cond.selects RX2 yX2_marked yX2_marked, Cond.code yX2_marked cX2_marked 3 (some .int)]
def wsX4_mark : List Cond := .code yX4_mark cX4_mark 3 (some .int) :: ((wsX4_mark_r1 ++ wsX4_mark_r2) ++ wsX40 ++ wsX20 ++ wsX00)
def wsX4_sameColours : List Cond := .code yX4_sameColours cX4_sameColours 4 (some .int) :: ([])
def wsX4_keep_r1 : List Cond := [Cond.fieldLink RX4 39 "GlassSpill" "history" "LGlassSpill$History;", Cond.fieldLink RX4 10 "GlassSpill" "now" "LGlassSpill$Scene;", Cond.fieldLink RX4 22 "GlassSpill" "shown" "LGlassSpill$View;", Cond.fieldLink RX4 101 "GlassSpill$View" "composed" "[I", Cond.fieldLink RX4 105 "GlassSpill$Scene" "front" "[I", Cond.fieldLink RX4 91 "GlassSpill$Scene" "glass" "[Z", Cond.methodLink RX4 51 yX0_remember, Cond.instanceMethod yX0_remember, Cond.selects RX0 yX0_remember yX0_remember, Cond.initialized RX0, Cond.code yX0_remember cX0_remember 3 none, Cond.fieldLink RX0 11 "GlassSpill$History" "states" "[LGlassSpill$Scene;", Cond.fieldLink RX0 17 "GlassSpill$History" "oldest" "I", Cond.fieldLink RX0 21 "GlassSpill$History" "size" "I", Cond.methodLink RX0 25 yJ9_floorMod_7cf53, Cond.static yJ9_floorMod_7cf53, Cond.initialized RJ9, Cond.code yJ9_floorMod_7cf53 cJ9_floorMod_7cf53 3 (some .int), Cond.methodLink RX0 31 yX2_copyFrom, Cond.instanceMethod yX2_copyFrom, Cond.selects RX2 yX2_copyFrom yX2_copyFrom, Cond.initialized RX2, Cond.code yX2_copyFrom cX2_copyFrom 3 none, Cond.fieldLink RX2 9 "GlassSpill$Scene" "settings" "[I"]
def wsX4_keep_r2 : List Cond := [Cond.methodLink RX2 32 arraycopyName, Cond.native arraycopyName, Cond.static arraycopyName, Cond.initialized "java/lang/System", Cond.fieldLink RX2 15 "GlassSpill$Scene" "front" "[I", Cond.fieldLink RX2 18 "GlassSpill$Scene" "back" "[I", Cond.fieldLink RX2 21 "GlassSpill$Scene" "glass" "[Z", Cond.fieldLink RX2 25 "GlassSpill$Scene" "screenColour" "I", Cond.methodLink RX4 98 yX3_show, Cond.instanceMethod yX3_show, Cond.selects RX3 yX3_show yX3_show, Cond.initialized RX3, Cond.code yX3_show cX3_show 2 none, Cond.methodLink RX3 44 yX3_findOpaque, Cond.instanceMethod yX3_findOpaque, Cond.selects RX3 yX3_findOpaque yX3_findOpaque, Cond.code yX3_findOpaque cX3_findOpaque 5 none, Cond.fieldLink RX3 70 "GlassSpill$Scene" "settings" "[I", Cond.fieldLink RX3 9 "GlassSpill$View" "raw" "[I", Cond.fieldLink RX3 15 "GlassSpill$View" "opaque" "[I", Cond.methodLink RX3 73 yX2_distanceOf, Cond.instanceMethod yX2_distanceOf, Cond.selects RX2 yX2_distanceOf yX2_distanceOf, Cond.code yX2_distanceOf cX2_distanceOf 2 (some .int)]
def wsX4_keep_r3 : List Cond := [Cond.static yX4_isPixel, Cond.initialized RX4, Cond.code yX4_isPixel cX4_isPixel 1 (some .boolean), Cond.static yX4_distance, Cond.code yX4_distance cX4_distance 4 (some .int), Cond.methodLink RX4 199 Lib.Math.abs.name, Cond.static Lib.Math.abs.name, Cond.initialized "java/lang/Math", Cond.code Lib.Math.abs.name Lib.Math.abs.code 1 (some .int), Cond.methodLink RX4 196 yX4_part, Cond.static yX4_part, Cond.code yX4_part cX4_part 2 (some .int), Cond.methodLink RX4 193 yX4_partShift, Cond.static yX4_partShift, Cond.code yX4_partShift cX4_partShift 1 (some .int), Cond.methodLink RX3 76 yX3_rawOpaque, Cond.static yX3_rawOpaque, Cond.code yX3_rawOpaque cX3_rawOpaque 3 (some .int), Cond.methodLink RX3 80 yX3_closeHoles, Cond.instanceMethod yX3_closeHoles, Cond.selects RX3 yX3_closeHoles yX3_closeHoles, Cond.code yX3_closeHoles cX3_closeHoles 2 none, Cond.fieldLink RX3 33 "GlassSpill$View" "reached" "[Z", Cond.methodLink RX3 83 yX3_reachFromEdge]
def wsX4_keep_r4 : List Cond := [Cond.instanceMethod yX3_reachFromEdge, Cond.selects RX3 yX3_reachFromEdge yX3_reachFromEdge, Cond.code yX3_reachFromEdge cX3_reachFromEdge 3 none, Cond.fieldLink RX3 40 "GlassSpill$View" "queued" "I", Cond.fieldLink RX3 37 "GlassSpill$View" "queue" "[I", Cond.static yX4_isAtEdge, Cond.code yX4_isAtEdge cX4_isAtEdge 3 (some .boolean), Cond.methodLink RX3 90 yX3_reach, Cond.instanceMethod yX3_reach, Cond.selects RX3 yX3_reach yX3_reach, Cond.code yX3_reach cX3_reach 2 none, Cond.static yX4_beside, Cond.code yX4_beside cX4_beside 3 (some .int), Cond.methodLink RX3 48 yX3_findKinds, Cond.instanceMethod yX3_findKinds, Cond.selects RX3 yX3_findKinds yX3_findKinds, Cond.code yX3_findKinds cX3_findKinds 3 none, Cond.fieldLink RX3 18 "GlassSpill$View" "kinds" "[I", Cond.fieldLink RX3 54 "GlassSpill$Scene" "glass" "[Z", Cond.methodLink RX3 100 yX3_unmarkedKind, Cond.instanceMethod yX3_unmarkedKind, Cond.selects RX3 yX3_unmarkedKind yX3_unmarkedKind, Cond.code yX3_unmarkedKind cX3_unmarkedKind 2 (some .int), Cond.methodLink RX3 103 yX3_isOneBeside]
def wsX4_keep_r5 : List Cond := [Cond.instanceMethod yX3_isOneBeside, Cond.selects RX3 yX3_isOneBeside yX3_isOneBeside, Cond.code yX3_isOneBeside cX3_isOneBeside 5 (some .boolean), Cond.methodLink RX3 51 yX3_compose, Cond.instanceMethod yX3_compose, Cond.selects RX3 yX3_compose yX3_compose, Cond.code yX3_compose cX3_compose 4 none, Cond.fieldLink RX3 59 "GlassSpill$Scene" "screenColour" "I", Cond.fieldLink RX3 21 "GlassSpill$View" "spill" "[I", Cond.fieldLink RX3 107 "GlassSpill$Scene" "front" "[I", Cond.fieldLink RX3 24 "GlassSpill$View" "taken" "[I", Cond.fieldLink RX3 27 "GlassSpill$View" "cleaned" "[I", Cond.fieldLink RX3 30 "GlassSpill$View" "composed" "[I", Cond.fieldLink RX3 117 "GlassSpill$Scene" "back" "[I", Cond.static yX4_mainPart, Cond.code yX4_mainPart cX4_mainPart 3 (some .int), Cond.static yX4_spillIn, Cond.code yX4_spillIn cX4_spillIn 4 (some .int), Cond.methodLink RX4 190 Lib.Math.max.name, Cond.static Lib.Math.max.name, Cond.code Lib.Math.max.name Lib.Math.max.code 2 (some .int), Cond.methodLink RX3 110 yX3_share, Cond.static yX3_share, Cond.code yX3_share cX3_share 2 (some .int)]
def wsX4_keep_r6 : List Cond := [Cond.static yX4_composedColour, Cond.code yX4_composedColour cX4_composedColour 6 (some .int), Cond.methodLink RX4 108 yX4_sameColours, Cond.static yX4_sameColours, Cond.code yX4_sameColours cX4_sameColours 4 (some .int)]
def wsX4_keep : List Cond := .code yX4_keep cX4_keep 3 (some .int) :: ((wsX4_keep_r1 ++ (wsX4_keep_r2 ++ (wsX4_keep_r3 ++ (wsX4_keep_r4 ++ (wsX4_keep_r5 ++ wsX4_keep_r6))))) ++ wsX40 ++ wsX30 ++ wsX20 ++ wsX00)
def wsX4_pixel_r1 : List Cond := [Cond.fieldLink RX4 22 "GlassSpill" "shown" "LGlassSpill$View;", Cond.fieldLink RX4 10 "GlassSpill" "now" "LGlassSpill$Scene;", Cond.fieldLink RX4 105 "GlassSpill$Scene" "front" "[I", Cond.fieldLink RX4 112 "GlassSpill$Scene" "back" "[I", Cond.fieldLink RX4 119 "GlassSpill$View" "raw" "[I", Cond.fieldLink RX4 122 "GlassSpill$View" "opaque" "[I", Cond.fieldLink RX4 125 "GlassSpill$View" "kinds" "[I", Cond.fieldLink RX4 128 "GlassSpill$View" "spill" "[I", Cond.fieldLink RX4 131 "GlassSpill$View" "taken" "[I", Cond.fieldLink RX4 134 "GlassSpill$View" "cleaned" "[I", Cond.fieldLink RX4 101 "GlassSpill$View" "composed" "[I", Cond.methodLink RX4 66 yX4_isPixel, Cond.static yX4_isPixel, Cond.initialized RX4, Cond.code yX4_isPixel cX4_isPixel 1 (some .boolean), Cond.methodLink RX4 98 yX3_show, Cond.instanceMethod yX3_show, Cond.selects RX3 yX3_show yX3_show, Cond.initialized RX3, Cond.code yX3_show cX3_show 2 none, Cond.methodLink RX3 44 yX3_findOpaque, Cond.instanceMethod yX3_findOpaque, Cond.selects RX3 yX3_findOpaque yX3_findOpaque, Cond.code yX3_findOpaque cX3_findOpaque 5 none]
def wsX4_pixel_r2 : List Cond := [Cond.fieldLink RX3 70 "GlassSpill$Scene" "settings" "[I", Cond.fieldLink RX3 9 "GlassSpill$View" "raw" "[I", Cond.fieldLink RX3 15 "GlassSpill$View" "opaque" "[I", Cond.methodLink RX3 73 yX2_distanceOf, Cond.instanceMethod yX2_distanceOf, Cond.selects RX2 yX2_distanceOf yX2_distanceOf, Cond.initialized RX2, Cond.code yX2_distanceOf cX2_distanceOf 2 (some .int), Cond.fieldLink RX2 15 "GlassSpill$Scene" "front" "[I", Cond.fieldLink RX2 25 "GlassSpill$Scene" "screenColour" "I", Cond.static yX4_distance, Cond.code yX4_distance cX4_distance 4 (some .int), Cond.methodLink RX4 199 Lib.Math.abs.name, Cond.static Lib.Math.abs.name, Cond.initialized "java/lang/Math", Cond.code Lib.Math.abs.name Lib.Math.abs.code 1 (some .int), Cond.methodLink RX4 196 yX4_part, Cond.static yX4_part, Cond.code yX4_part cX4_part 2 (some .int), Cond.methodLink RX4 193 yX4_partShift, Cond.static yX4_partShift, Cond.code yX4_partShift cX4_partShift 1 (some .int), Cond.methodLink RX3 76 yX3_rawOpaque, Cond.static yX3_rawOpaque]
def wsX4_pixel_r3 : List Cond := [Cond.code yX3_rawOpaque cX3_rawOpaque 3 (some .int), Cond.methodLink RX3 80 yX3_closeHoles, Cond.instanceMethod yX3_closeHoles, Cond.selects RX3 yX3_closeHoles yX3_closeHoles, Cond.code yX3_closeHoles cX3_closeHoles 2 none, Cond.fieldLink RX3 33 "GlassSpill$View" "reached" "[Z", Cond.methodLink RX3 83 yX3_reachFromEdge, Cond.instanceMethod yX3_reachFromEdge, Cond.selects RX3 yX3_reachFromEdge yX3_reachFromEdge, Cond.code yX3_reachFromEdge cX3_reachFromEdge 3 none, Cond.fieldLink RX3 40 "GlassSpill$View" "queued" "I", Cond.fieldLink RX3 37 "GlassSpill$View" "queue" "[I", Cond.static yX4_isAtEdge, Cond.code yX4_isAtEdge cX4_isAtEdge 3 (some .boolean), Cond.methodLink RX3 90 yX3_reach, Cond.instanceMethod yX3_reach, Cond.selects RX3 yX3_reach yX3_reach, Cond.code yX3_reach cX3_reach 2 none, Cond.static yX4_beside, Cond.code yX4_beside cX4_beside 3 (some .int), Cond.methodLink RX3 48 yX3_findKinds, Cond.instanceMethod yX3_findKinds, Cond.selects RX3 yX3_findKinds yX3_findKinds, Cond.code yX3_findKinds cX3_findKinds 3 none]
def wsX4_pixel_r4 : List Cond := [Cond.fieldLink RX3 18 "GlassSpill$View" "kinds" "[I", Cond.fieldLink RX3 54 "GlassSpill$Scene" "glass" "[Z", Cond.methodLink RX3 100 yX3_unmarkedKind, Cond.instanceMethod yX3_unmarkedKind, Cond.selects RX3 yX3_unmarkedKind yX3_unmarkedKind, Cond.code yX3_unmarkedKind cX3_unmarkedKind 2 (some .int), Cond.methodLink RX3 103 yX3_isOneBeside, Cond.instanceMethod yX3_isOneBeside, Cond.selects RX3 yX3_isOneBeside yX3_isOneBeside, Cond.code yX3_isOneBeside cX3_isOneBeside 5 (some .boolean), Cond.methodLink RX3 51 yX3_compose, Cond.instanceMethod yX3_compose, Cond.selects RX3 yX3_compose yX3_compose, Cond.code yX3_compose cX3_compose 4 none, Cond.fieldLink RX3 59 "GlassSpill$Scene" "screenColour" "I", Cond.fieldLink RX3 21 "GlassSpill$View" "spill" "[I", Cond.fieldLink RX3 107 "GlassSpill$Scene" "front" "[I", Cond.fieldLink RX3 24 "GlassSpill$View" "taken" "[I", Cond.fieldLink RX3 27 "GlassSpill$View" "cleaned" "[I", Cond.fieldLink RX3 30 "GlassSpill$View" "composed" "[I", Cond.fieldLink RX3 117 "GlassSpill$Scene" "back" "[I", Cond.static yX4_mainPart, Cond.code yX4_mainPart cX4_mainPart 3 (some .int), Cond.static yX4_spillIn]
def wsX4_pixel_r5 : List Cond := [Cond.code yX4_spillIn cX4_spillIn 4 (some .int), Cond.methodLink RX4 190 Lib.Math.max.name, Cond.static Lib.Math.max.name, Cond.code Lib.Math.max.name Lib.Math.max.code 2 (some .int), Cond.methodLink RX3 110 yX3_share, Cond.static yX3_share, Cond.code yX3_share cX3_share 2 (some .int), Cond.static yX4_composedColour, Cond.code yX4_composedColour cX4_composedColour 6 (some .int), Cond.methodLink RX4 115 yX2_distanceOf]
def wsX4_pixel : List Cond := .code yX4_pixel cX4_pixel 3 (some .int) :: ((wsX4_pixel_r1 ++ (wsX4_pixel_r2 ++ (wsX4_pixel_r3 ++ (wsX4_pixel_r4 ++ wsX4_pixel_r5)))) ++ wsX40 ++ wsX20 ++ wsX30)
def wsX4_sum : List Cond := .code yX4_sum cX4_sum 6 (some .int) :: ([])
def wsX4_count_r1 : List Cond := [Cond.fieldLink RX4 10 "GlassSpill" "now" "LGlassSpill$Scene;", Cond.fieldLink RX4 137 "GlassSpill$Scene" "settings" "[I", Cond.fieldLink RX4 22 "GlassSpill" "shown" "LGlassSpill$View;", Cond.fieldLink RX4 62 "GlassSpill$Scene" "screenColour" "I", Cond.fieldLink RX4 122 "GlassSpill$View" "opaque" "[I", Cond.fieldLink RX4 128 "GlassSpill$View" "spill" "[I", Cond.fieldLink RX4 131 "GlassSpill$View" "taken" "[I", Cond.fieldLink RX4 101 "GlassSpill$View" "composed" "[I", Cond.fieldLink RX4 112 "GlassSpill$Scene" "back" "[I", Cond.fieldLink RX4 105 "GlassSpill$Scene" "front" "[I", Cond.fieldLink RX4 32 "GlassSpill" "pad" "LGlassSpill$Pad;", Cond.fieldLink RX4 88 "GlassSpill$Pad" "length" "I", Cond.fieldLink RX4 39 "GlassSpill" "history" "LGlassSpill$History;", Cond.fieldLink RX4 150 "GlassSpill$History" "size" "I", Cond.methodLink RX4 98 yX3_show, Cond.instanceMethod yX3_show, Cond.selects RX3 yX3_show yX3_show, Cond.initialized RX3, Cond.code yX3_show cX3_show 2 none, Cond.methodLink RX3 44 yX3_findOpaque, Cond.instanceMethod yX3_findOpaque, Cond.selects RX3 yX3_findOpaque yX3_findOpaque, Cond.code yX3_findOpaque cX3_findOpaque 5 none, Cond.fieldLink RX3 70 "GlassSpill$Scene" "settings" "[I"]
def wsX4_count_r2 : List Cond := [Cond.fieldLink RX3 9 "GlassSpill$View" "raw" "[I", Cond.fieldLink RX3 15 "GlassSpill$View" "opaque" "[I", Cond.methodLink RX3 73 yX2_distanceOf, Cond.instanceMethod yX2_distanceOf, Cond.selects RX2 yX2_distanceOf yX2_distanceOf, Cond.initialized RX2, Cond.code yX2_distanceOf cX2_distanceOf 2 (some .int), Cond.fieldLink RX2 15 "GlassSpill$Scene" "front" "[I", Cond.fieldLink RX2 25 "GlassSpill$Scene" "screenColour" "I", Cond.static yX4_isPixel, Cond.initialized RX4, Cond.code yX4_isPixel cX4_isPixel 1 (some .boolean), Cond.static yX4_distance, Cond.code yX4_distance cX4_distance 4 (some .int), Cond.methodLink RX4 199 Lib.Math.abs.name, Cond.static Lib.Math.abs.name, Cond.initialized "java/lang/Math", Cond.code Lib.Math.abs.name Lib.Math.abs.code 1 (some .int), Cond.methodLink RX4 196 yX4_part, Cond.static yX4_part, Cond.code yX4_part cX4_part 2 (some .int), Cond.methodLink RX4 193 yX4_partShift, Cond.static yX4_partShift, Cond.code yX4_partShift cX4_partShift 1 (some .int)]
def wsX4_count_r3 : List Cond := [Cond.methodLink RX3 76 yX3_rawOpaque, Cond.static yX3_rawOpaque, Cond.code yX3_rawOpaque cX3_rawOpaque 3 (some .int), Cond.methodLink RX3 80 yX3_closeHoles, Cond.instanceMethod yX3_closeHoles, Cond.selects RX3 yX3_closeHoles yX3_closeHoles, Cond.code yX3_closeHoles cX3_closeHoles 2 none, Cond.fieldLink RX3 33 "GlassSpill$View" "reached" "[Z", Cond.methodLink RX3 83 yX3_reachFromEdge, Cond.instanceMethod yX3_reachFromEdge, Cond.selects RX3 yX3_reachFromEdge yX3_reachFromEdge, Cond.code yX3_reachFromEdge cX3_reachFromEdge 3 none, Cond.fieldLink RX3 40 "GlassSpill$View" "queued" "I", Cond.fieldLink RX3 37 "GlassSpill$View" "queue" "[I", Cond.static yX4_isAtEdge, Cond.code yX4_isAtEdge cX4_isAtEdge 3 (some .boolean), Cond.methodLink RX3 90 yX3_reach, Cond.instanceMethod yX3_reach, Cond.selects RX3 yX3_reach yX3_reach, Cond.code yX3_reach cX3_reach 2 none, Cond.static yX4_beside, Cond.code yX4_beside cX4_beside 3 (some .int), Cond.methodLink RX3 48 yX3_findKinds, Cond.instanceMethod yX3_findKinds]
def wsX4_count_r4 : List Cond := [Cond.selects RX3 yX3_findKinds yX3_findKinds, Cond.code yX3_findKinds cX3_findKinds 3 none, Cond.fieldLink RX3 18 "GlassSpill$View" "kinds" "[I", Cond.fieldLink RX3 54 "GlassSpill$Scene" "glass" "[Z", Cond.methodLink RX3 100 yX3_unmarkedKind, Cond.instanceMethod yX3_unmarkedKind, Cond.selects RX3 yX3_unmarkedKind yX3_unmarkedKind, Cond.code yX3_unmarkedKind cX3_unmarkedKind 2 (some .int), Cond.methodLink RX3 103 yX3_isOneBeside, Cond.instanceMethod yX3_isOneBeside, Cond.selects RX3 yX3_isOneBeside yX3_isOneBeside, Cond.code yX3_isOneBeside cX3_isOneBeside 5 (some .boolean), Cond.methodLink RX3 51 yX3_compose, Cond.instanceMethod yX3_compose, Cond.selects RX3 yX3_compose yX3_compose, Cond.code yX3_compose cX3_compose 4 none, Cond.fieldLink RX3 59 "GlassSpill$Scene" "screenColour" "I", Cond.fieldLink RX3 21 "GlassSpill$View" "spill" "[I", Cond.fieldLink RX3 107 "GlassSpill$Scene" "front" "[I", Cond.fieldLink RX3 24 "GlassSpill$View" "taken" "[I", Cond.fieldLink RX3 27 "GlassSpill$View" "cleaned" "[I", Cond.fieldLink RX3 30 "GlassSpill$View" "composed" "[I", Cond.fieldLink RX3 117 "GlassSpill$Scene" "back" "[I", Cond.static yX4_mainPart]
def wsX4_count_r5 : List Cond := [Cond.code yX4_mainPart cX4_mainPart 3 (some .int), Cond.static yX4_spillIn, Cond.code yX4_spillIn cX4_spillIn 4 (some .int), Cond.methodLink RX4 190 Lib.Math.max.name, Cond.static Lib.Math.max.name, Cond.code Lib.Math.max.name Lib.Math.max.code 2 (some .int), Cond.methodLink RX3 110 yX3_share, Cond.static yX3_share, Cond.code yX3_share cX3_share 2 (some .int), Cond.static yX4_composedColour, Cond.code yX4_composedColour cX4_composedColour 6 (some .int), Cond.methodLink RX4 140 yX3_ofKind, Cond.instanceMethod yX3_ofKind, Cond.selects RX3 yX3_ofKind yX3_ofKind, Cond.code yX3_ofKind cX3_ofKind 4 (some .int), Cond.methodLink RX4 143 yX4_sum, Cond.static yX4_sum, Cond.code yX4_sum cX4_sum 6 (some .int), Cond.methodLink RX4 147 yX3_closed, Cond.instanceMethod yX3_closed, Cond.selects RX3 yX3_closed yX3_closed, Cond.code yX3_closed cX3_closed 3 (some .int), Cond.methodLink RX4 108 yX4_sameColours, Cond.static yX4_sameColours]
def wsX4_count_r6 : List Cond := [Cond.code yX4_sameColours cX4_sameColours 4 (some .int), Cond.methodLink RX4 95 yX2_marked, Cond.instanceMethod yX2_marked, Cond.selects RX2 yX2_marked yX2_marked, Cond.code yX2_marked cX2_marked 3 (some .int), Cond.fieldLink RX2 21 "GlassSpill$Scene" "glass" "[Z"]
def wsX4_count : List Cond := .code yX4_count cX4_count 2 (some .int) :: ((wsX4_count_r1 ++ (wsX4_count_r2 ++ (wsX4_count_r3 ++ (wsX4_count_r4 ++ (wsX4_count_r5 ++ wsX4_count_r6))))) ++ wsX40 ++ wsX20 ++ wsX30 ++ wsX10 ++ wsX00)
def wsX4_row_r1 : List Cond := [Cond.fieldLink RX4 22 "GlassSpill" "shown" "LGlassSpill$View;", Cond.fieldLink RX4 10 "GlassSpill" "now" "LGlassSpill$Scene;", Cond.fieldLink RX4 125 "GlassSpill$View" "kinds" "[I", Cond.methodLink RX4 77 yX4_isRow, Cond.static yX4_isRow, Cond.initialized RX4, Cond.code yX4_isRow cX4_isRow 1 (some .boolean), Cond.methodLink RX4 98 yX3_show, Cond.instanceMethod yX3_show, Cond.selects RX3 yX3_show yX3_show, Cond.initialized RX3, Cond.code yX3_show cX3_show 2 none, Cond.methodLink RX3 44 yX3_findOpaque, Cond.instanceMethod yX3_findOpaque, Cond.selects RX3 yX3_findOpaque yX3_findOpaque, Cond.code yX3_findOpaque cX3_findOpaque 5 none, Cond.fieldLink RX3 70 "GlassSpill$Scene" "settings" "[I", Cond.fieldLink RX3 9 "GlassSpill$View" "raw" "[I", Cond.fieldLink RX3 15 "GlassSpill$View" "opaque" "[I", Cond.methodLink RX3 73 yX2_distanceOf, Cond.instanceMethod yX2_distanceOf, Cond.selects RX2 yX2_distanceOf yX2_distanceOf, Cond.initialized RX2, Cond.code yX2_distanceOf cX2_distanceOf 2 (some .int)]
def wsX4_row_r2 : List Cond := [Cond.fieldLink RX2 15 "GlassSpill$Scene" "front" "[I", Cond.fieldLink RX2 25 "GlassSpill$Scene" "screenColour" "I", Cond.static yX4_isPixel, Cond.code yX4_isPixel cX4_isPixel 1 (some .boolean), Cond.static yX4_distance, Cond.code yX4_distance cX4_distance 4 (some .int), Cond.methodLink RX4 199 Lib.Math.abs.name, Cond.static Lib.Math.abs.name, Cond.initialized "java/lang/Math", Cond.code Lib.Math.abs.name Lib.Math.abs.code 1 (some .int), Cond.methodLink RX4 196 yX4_part, Cond.static yX4_part, Cond.code yX4_part cX4_part 2 (some .int), Cond.methodLink RX4 193 yX4_partShift, Cond.static yX4_partShift, Cond.code yX4_partShift cX4_partShift 1 (some .int), Cond.methodLink RX3 76 yX3_rawOpaque, Cond.static yX3_rawOpaque, Cond.code yX3_rawOpaque cX3_rawOpaque 3 (some .int), Cond.methodLink RX3 80 yX3_closeHoles, Cond.instanceMethod yX3_closeHoles, Cond.selects RX3 yX3_closeHoles yX3_closeHoles, Cond.code yX3_closeHoles cX3_closeHoles 2 none, Cond.fieldLink RX3 33 "GlassSpill$View" "reached" "[Z"]
def wsX4_row_r3 : List Cond := [Cond.methodLink RX3 83 yX3_reachFromEdge, Cond.instanceMethod yX3_reachFromEdge, Cond.selects RX3 yX3_reachFromEdge yX3_reachFromEdge, Cond.code yX3_reachFromEdge cX3_reachFromEdge 3 none, Cond.fieldLink RX3 40 "GlassSpill$View" "queued" "I", Cond.fieldLink RX3 37 "GlassSpill$View" "queue" "[I", Cond.static yX4_isAtEdge, Cond.code yX4_isAtEdge cX4_isAtEdge 3 (some .boolean), Cond.methodLink RX3 90 yX3_reach, Cond.instanceMethod yX3_reach, Cond.selects RX3 yX3_reach yX3_reach, Cond.code yX3_reach cX3_reach 2 none, Cond.static yX4_beside, Cond.code yX4_beside cX4_beside 3 (some .int), Cond.methodLink RX3 48 yX3_findKinds, Cond.instanceMethod yX3_findKinds, Cond.selects RX3 yX3_findKinds yX3_findKinds, Cond.code yX3_findKinds cX3_findKinds 3 none, Cond.fieldLink RX3 18 "GlassSpill$View" "kinds" "[I", Cond.fieldLink RX3 54 "GlassSpill$Scene" "glass" "[Z", Cond.methodLink RX3 100 yX3_unmarkedKind, Cond.instanceMethod yX3_unmarkedKind, Cond.selects RX3 yX3_unmarkedKind yX3_unmarkedKind, Cond.code yX3_unmarkedKind cX3_unmarkedKind 2 (some .int)]
def wsX4_row_r4 : List Cond := [Cond.methodLink RX3 103 yX3_isOneBeside, Cond.instanceMethod yX3_isOneBeside, Cond.selects RX3 yX3_isOneBeside yX3_isOneBeside, Cond.code yX3_isOneBeside cX3_isOneBeside 5 (some .boolean), Cond.methodLink RX3 51 yX3_compose, Cond.instanceMethod yX3_compose, Cond.selects RX3 yX3_compose yX3_compose, Cond.code yX3_compose cX3_compose 4 none, Cond.fieldLink RX3 59 "GlassSpill$Scene" "screenColour" "I", Cond.fieldLink RX3 21 "GlassSpill$View" "spill" "[I", Cond.fieldLink RX3 107 "GlassSpill$Scene" "front" "[I", Cond.fieldLink RX3 24 "GlassSpill$View" "taken" "[I", Cond.fieldLink RX3 27 "GlassSpill$View" "cleaned" "[I", Cond.fieldLink RX3 30 "GlassSpill$View" "composed" "[I", Cond.fieldLink RX3 117 "GlassSpill$Scene" "back" "[I", Cond.static yX4_mainPart, Cond.code yX4_mainPart cX4_mainPart 3 (some .int), Cond.static yX4_spillIn, Cond.code yX4_spillIn cX4_spillIn 4 (some .int), Cond.methodLink RX4 190 Lib.Math.max.name, Cond.static Lib.Math.max.name, Cond.code Lib.Math.max.name Lib.Math.max.code 2 (some .int), Cond.methodLink RX3 110 yX3_share, Cond.static yX3_share]
def wsX4_row_r5 : List Cond := [Cond.code yX3_share cX3_share 2 (some .int), Cond.static yX4_composedColour, Cond.code yX4_composedColour cX4_composedColour 6 (some .int)]
def wsX4_row : List Cond := .code yX4_row cX4_row 5 (some .int) :: ((wsX4_row_r1 ++ (wsX4_row_r2 ++ (wsX4_row_r3 ++ (wsX4_row_r4 ++ wsX4_row_r5)))) ++ wsX40 ++ wsX30 ++ wsX20)
def wsX4_bestScreen_r1 : List Cond := [Cond.fieldLink RX4 16 "GlassSpill" "trial" "LGlassSpill$Scene;", Cond.fieldLink RX4 10 "GlassSpill" "now" "LGlassSpill$Scene;", Cond.fieldLink RX4 105 "GlassSpill$Scene" "front" "[I", Cond.fieldLink RX4 62 "GlassSpill$Scene" "screenColour" "I", Cond.fieldLink RX4 26 "GlassSpill" "trialView" "LGlassSpill$View;", Cond.methodLink RX4 153 yX2_copyFrom, Cond.instanceMethod yX2_copyFrom, Cond.selects RX2 yX2_copyFrom yX2_copyFrom, Cond.initialized RX2, Cond.code yX2_copyFrom cX2_copyFrom 3 none, Cond.fieldLink RX2 9 "GlassSpill$Scene" "settings" "[I", Cond.methodLink RX2 32 arraycopyName, Cond.native arraycopyName, Cond.static arraycopyName, Cond.initialized "java/lang/System", Cond.fieldLink RX2 15 "GlassSpill$Scene" "front" "[I", Cond.fieldLink RX2 18 "GlassSpill$Scene" "back" "[I", Cond.fieldLink RX2 21 "GlassSpill$Scene" "glass" "[Z", Cond.fieldLink RX2 25 "GlassSpill$Scene" "screenColour" "I", Cond.methodLink RX4 156 yX3_clearPixels, Cond.instanceMethod yX3_clearPixels, Cond.selects RX3 yX3_clearPixels yX3_clearPixels, Cond.initialized RX3, Cond.code yX3_clearPixels cX3_clearPixels 4 (some .int)]
def wsX4_bestScreen_r2 : List Cond := [Cond.fieldLink RX3 15 "GlassSpill$View" "opaque" "[I", Cond.fieldLink RX3 54 "GlassSpill$Scene" "glass" "[Z", Cond.methodLink RX3 44 yX3_findOpaque, Cond.instanceMethod yX3_findOpaque, Cond.selects RX3 yX3_findOpaque yX3_findOpaque, Cond.code yX3_findOpaque cX3_findOpaque 5 none, Cond.fieldLink RX3 70 "GlassSpill$Scene" "settings" "[I", Cond.fieldLink RX3 9 "GlassSpill$View" "raw" "[I", Cond.methodLink RX3 73 yX2_distanceOf, Cond.instanceMethod yX2_distanceOf, Cond.selects RX2 yX2_distanceOf yX2_distanceOf, Cond.code yX2_distanceOf cX2_distanceOf 2 (some .int), Cond.static yX4_isPixel, Cond.initialized RX4, Cond.code yX4_isPixel cX4_isPixel 1 (some .boolean), Cond.static yX4_distance, Cond.code yX4_distance cX4_distance 4 (some .int), Cond.methodLink RX4 199 Lib.Math.abs.name, Cond.static Lib.Math.abs.name, Cond.initialized "java/lang/Math", Cond.code Lib.Math.abs.name Lib.Math.abs.code 1 (some .int), Cond.methodLink RX4 196 yX4_part, Cond.static yX4_part, Cond.code yX4_part cX4_part 2 (some .int)]
def wsX4_bestScreen_r3 : List Cond := [Cond.methodLink RX4 193 yX4_partShift, Cond.static yX4_partShift, Cond.code yX4_partShift cX4_partShift 1 (some .int), Cond.methodLink RX3 76 yX3_rawOpaque, Cond.static yX3_rawOpaque, Cond.code yX3_rawOpaque cX3_rawOpaque 3 (some .int), Cond.methodLink RX3 80 yX3_closeHoles, Cond.instanceMethod yX3_closeHoles, Cond.selects RX3 yX3_closeHoles yX3_closeHoles, Cond.code yX3_closeHoles cX3_closeHoles 2 none, Cond.fieldLink RX3 33 "GlassSpill$View" "reached" "[Z", Cond.methodLink RX3 83 yX3_reachFromEdge, Cond.instanceMethod yX3_reachFromEdge, Cond.selects RX3 yX3_reachFromEdge yX3_reachFromEdge, Cond.code yX3_reachFromEdge cX3_reachFromEdge 3 none, Cond.fieldLink RX3 40 "GlassSpill$View" "queued" "I", Cond.fieldLink RX3 37 "GlassSpill$View" "queue" "[I", Cond.static yX4_isAtEdge, Cond.code yX4_isAtEdge cX4_isAtEdge 3 (some .boolean), Cond.methodLink RX3 90 yX3_reach, Cond.instanceMethod yX3_reach, Cond.selects RX3 yX3_reach yX3_reach, Cond.code yX3_reach cX3_reach 2 none, Cond.static yX4_beside]
def wsX4_bestScreen_r4 : List Cond := [Cond.code yX4_beside cX4_beside 3 (some .int)]
def wsX4_bestScreen : List Cond := .code yX4_bestScreen cX4_bestScreen 6 (some .int) :: ((wsX4_bestScreen_r1 ++ (wsX4_bestScreen_r2 ++ (wsX4_bestScreen_r3 ++ wsX4_bestScreen_r4))) ++ wsX40 ++ wsX20 ++ wsX30)
def wsX4_leastNear_r1 : List Cond := [Cond.fieldLink RX4 10 "GlassSpill" "now" "LGlassSpill$Scene;", Cond.fieldLink RX4 137 "GlassSpill$Scene" "settings" "[I", Cond.methodLink RX4 66 yX4_isPixel, Cond.static yX4_isPixel, Cond.initialized RX4, Cond.code yX4_isPixel cX4_isPixel 1 (some .boolean), Cond.methodLink RX4 115 yX2_distanceOf, Cond.instanceMethod yX2_distanceOf, Cond.selects RX2 yX2_distanceOf yX2_distanceOf, Cond.initialized RX2, Cond.code yX2_distanceOf cX2_distanceOf 2 (some .int), Cond.fieldLink RX2 15 "GlassSpill$Scene" "front" "[I", Cond.fieldLink RX2 25 "GlassSpill$Scene" "screenColour" "I", Cond.static yX4_distance, Cond.code yX4_distance cX4_distance 4 (some .int), Cond.methodLink RX4 199 Lib.Math.abs.name, Cond.static Lib.Math.abs.name, Cond.initialized "java/lang/Math", Cond.code Lib.Math.abs.name Lib.Math.abs.code 1 (some .int), Cond.methodLink RX4 196 yX4_part, Cond.static yX4_part, Cond.code yX4_part cX4_part 2 (some .int), Cond.methodLink RX4 193 yX4_partShift, Cond.static yX4_partShift]
def wsX4_leastNear_r2 : List Cond := [Cond.code yX4_partShift cX4_partShift 1 (some .int)]
def wsX4_leastNear : List Cond := .code yX4_leastNear cX4_leastNear 3 (some .int) :: ((wsX4_leastNear_r1 ++ wsX4_leastNear_r2) ++ wsX40 ++ wsX20)
def wsX4_ifSet_r1 : List Cond := [Cond.fieldLink RX4 16 "GlassSpill" "trial" "LGlassSpill$Scene;", Cond.fieldLink RX4 10 "GlassSpill" "now" "LGlassSpill$Scene;", Cond.fieldLink RX4 22 "GlassSpill" "shown" "LGlassSpill$View;", Cond.fieldLink RX4 26 "GlassSpill" "trialView" "LGlassSpill$View;", Cond.fieldLink RX4 101 "GlassSpill$View" "composed" "[I", Cond.methodLink RX4 47 yX4_errorOfSetting, Cond.instanceMethod yX4_errorOfSetting, Cond.selects RX4 yX4_errorOfSetting yX4_errorOfSetting, Cond.initialized RX4, Cond.code yX4_errorOfSetting cX4_errorOfSetting 5 (some .int), Cond.fieldLink RX4 180 "GlassSpill" "HIGHEST_VALUES" "[I", Cond.fieldLink RX4 137 "GlassSpill$Scene" "settings" "[I", Cond.methodLink RX4 177 yX4_isSetting, Cond.static yX4_isSetting, Cond.code yX4_isSetting cX4_isSetting 1 (some .boolean), Cond.methodLink RX4 153 yX2_copyFrom, Cond.instanceMethod yX2_copyFrom, Cond.selects RX2 yX2_copyFrom yX2_copyFrom, Cond.initialized RX2, Cond.code yX2_copyFrom cX2_copyFrom 3 none, Cond.fieldLink RX2 9 "GlassSpill$Scene" "settings" "[I", Cond.methodLink RX2 32 arraycopyName, Cond.native arraycopyName, Cond.static arraycopyName]
def wsX4_ifSet_r2 : List Cond := [Cond.initialized "java/lang/System", Cond.fieldLink RX2 15 "GlassSpill$Scene" "front" "[I", Cond.fieldLink RX2 18 "GlassSpill$Scene" "back" "[I", Cond.fieldLink RX2 21 "GlassSpill$Scene" "glass" "[Z", Cond.fieldLink RX2 25 "GlassSpill$Scene" "screenColour" "I", Cond.methodLink RX4 55 yX2_changeSetting, Cond.instanceMethod yX2_changeSetting, Cond.selects RX2 yX2_changeSetting yX2_changeSetting, Cond.code yX2_changeSetting cX2_changeSetting 4 (some .int), Cond.methodLink RX4 98 yX3_show, Cond.instanceMethod yX3_show, Cond.selects RX3 yX3_show yX3_show, Cond.initialized RX3, Cond.code yX3_show cX3_show 2 none, Cond.methodLink RX3 44 yX3_findOpaque, Cond.instanceMethod yX3_findOpaque, Cond.selects RX3 yX3_findOpaque yX3_findOpaque, Cond.code yX3_findOpaque cX3_findOpaque 5 none, Cond.fieldLink RX3 70 "GlassSpill$Scene" "settings" "[I", Cond.fieldLink RX3 9 "GlassSpill$View" "raw" "[I", Cond.fieldLink RX3 15 "GlassSpill$View" "opaque" "[I", Cond.methodLink RX3 73 yX2_distanceOf, Cond.instanceMethod yX2_distanceOf, Cond.selects RX2 yX2_distanceOf yX2_distanceOf]
def wsX4_ifSet_r3 : List Cond := [Cond.code yX2_distanceOf cX2_distanceOf 2 (some .int), Cond.static yX4_isPixel, Cond.code yX4_isPixel cX4_isPixel 1 (some .boolean), Cond.static yX4_distance, Cond.code yX4_distance cX4_distance 4 (some .int), Cond.methodLink RX4 199 Lib.Math.abs.name, Cond.static Lib.Math.abs.name, Cond.initialized "java/lang/Math", Cond.code Lib.Math.abs.name Lib.Math.abs.code 1 (some .int), Cond.methodLink RX4 196 yX4_part, Cond.static yX4_part, Cond.code yX4_part cX4_part 2 (some .int), Cond.methodLink RX4 193 yX4_partShift, Cond.static yX4_partShift, Cond.code yX4_partShift cX4_partShift 1 (some .int), Cond.methodLink RX3 76 yX3_rawOpaque, Cond.static yX3_rawOpaque, Cond.code yX3_rawOpaque cX3_rawOpaque 3 (some .int), Cond.methodLink RX3 80 yX3_closeHoles, Cond.instanceMethod yX3_closeHoles, Cond.selects RX3 yX3_closeHoles yX3_closeHoles, Cond.code yX3_closeHoles cX3_closeHoles 2 none, Cond.fieldLink RX3 33 "GlassSpill$View" "reached" "[Z", Cond.methodLink RX3 83 yX3_reachFromEdge]
def wsX4_ifSet_r4 : List Cond := [Cond.instanceMethod yX3_reachFromEdge, Cond.selects RX3 yX3_reachFromEdge yX3_reachFromEdge, Cond.code yX3_reachFromEdge cX3_reachFromEdge 3 none, Cond.fieldLink RX3 40 "GlassSpill$View" "queued" "I", Cond.fieldLink RX3 37 "GlassSpill$View" "queue" "[I", Cond.static yX4_isAtEdge, Cond.code yX4_isAtEdge cX4_isAtEdge 3 (some .boolean), Cond.methodLink RX3 90 yX3_reach, Cond.instanceMethod yX3_reach, Cond.selects RX3 yX3_reach yX3_reach, Cond.code yX3_reach cX3_reach 2 none, Cond.static yX4_beside, Cond.code yX4_beside cX4_beside 3 (some .int), Cond.methodLink RX3 48 yX3_findKinds, Cond.instanceMethod yX3_findKinds, Cond.selects RX3 yX3_findKinds yX3_findKinds, Cond.code yX3_findKinds cX3_findKinds 3 none, Cond.fieldLink RX3 18 "GlassSpill$View" "kinds" "[I", Cond.fieldLink RX3 54 "GlassSpill$Scene" "glass" "[Z", Cond.methodLink RX3 100 yX3_unmarkedKind, Cond.instanceMethod yX3_unmarkedKind, Cond.selects RX3 yX3_unmarkedKind yX3_unmarkedKind, Cond.code yX3_unmarkedKind cX3_unmarkedKind 2 (some .int), Cond.methodLink RX3 103 yX3_isOneBeside]
def wsX4_ifSet_r5 : List Cond := [Cond.instanceMethod yX3_isOneBeside, Cond.selects RX3 yX3_isOneBeside yX3_isOneBeside, Cond.code yX3_isOneBeside cX3_isOneBeside 5 (some .boolean), Cond.methodLink RX3 51 yX3_compose, Cond.instanceMethod yX3_compose, Cond.selects RX3 yX3_compose yX3_compose, Cond.code yX3_compose cX3_compose 4 none, Cond.fieldLink RX3 59 "GlassSpill$Scene" "screenColour" "I", Cond.fieldLink RX3 21 "GlassSpill$View" "spill" "[I", Cond.fieldLink RX3 107 "GlassSpill$Scene" "front" "[I", Cond.fieldLink RX3 24 "GlassSpill$View" "taken" "[I", Cond.fieldLink RX3 27 "GlassSpill$View" "cleaned" "[I", Cond.fieldLink RX3 30 "GlassSpill$View" "composed" "[I", Cond.fieldLink RX3 117 "GlassSpill$Scene" "back" "[I", Cond.static yX4_mainPart, Cond.code yX4_mainPart cX4_mainPart 3 (some .int), Cond.static yX4_spillIn, Cond.code yX4_spillIn cX4_spillIn 4 (some .int), Cond.methodLink RX4 190 Lib.Math.max.name, Cond.static Lib.Math.max.name, Cond.code Lib.Math.max.name Lib.Math.max.code 2 (some .int), Cond.methodLink RX3 110 yX3_share, Cond.static yX3_share, Cond.code yX3_share cX3_share 2 (some .int)]
def wsX4_ifSet_r6 : List Cond := [Cond.static yX4_composedColour, Cond.code yX4_composedColour cX4_composedColour 6 (some .int), Cond.methodLink RX4 108 yX4_sameColours, Cond.static yX4_sameColours, Cond.code yX4_sameColours cX4_sameColours 4 (some .int)]
def wsX4_ifSet : List Cond := .code yX4_ifSet cX4_ifSet 4 (some .int) :: ((wsX4_ifSet_r1 ++ (wsX4_ifSet_r2 ++ (wsX4_ifSet_r3 ++ (wsX4_ifSet_r4 ++ (wsX4_ifSet_r5 ++ wsX4_ifSet_r6))))) ++ wsX40 ++ wsX30 ++ wsX20)
def wsX4_bestShare_r1 : List Cond := [Cond.fieldLink RX4 16 "GlassSpill" "trial" "LGlassSpill$Scene;", Cond.fieldLink RX4 10 "GlassSpill" "now" "LGlassSpill$Scene;", Cond.fieldLink RX4 26 "GlassSpill" "trialView" "LGlassSpill$View;", Cond.methodLink RX4 153 yX2_copyFrom, Cond.instanceMethod yX2_copyFrom, Cond.selects RX2 yX2_copyFrom yX2_copyFrom, Cond.initialized RX2, Cond.code yX2_copyFrom cX2_copyFrom 3 none, Cond.fieldLink RX2 9 "GlassSpill$Scene" "settings" "[I", Cond.methodLink RX2 32 arraycopyName, Cond.native arraycopyName, Cond.static arraycopyName, Cond.initialized "java/lang/System", Cond.fieldLink RX2 15 "GlassSpill$Scene" "front" "[I", Cond.fieldLink RX2 18 "GlassSpill$Scene" "back" "[I", Cond.fieldLink RX2 21 "GlassSpill$Scene" "glass" "[Z", Cond.fieldLink RX2 25 "GlassSpill$Scene" "screenColour" "I", Cond.methodLink RX4 55 yX2_changeSetting, Cond.instanceMethod yX2_changeSetting, Cond.selects RX2 yX2_changeSetting yX2_changeSetting, Cond.code yX2_changeSetting cX2_changeSetting 4 (some .int), Cond.static yX4_isSetting, Cond.initialized RX4, Cond.code yX4_isSetting cX4_isSetting 1 (some .boolean)]
def wsX4_bestShare_r2 : List Cond := [Cond.methodLink RX4 98 yX3_show, Cond.instanceMethod yX3_show, Cond.selects RX3 yX3_show yX3_show, Cond.initialized RX3, Cond.code yX3_show cX3_show 2 none, Cond.methodLink RX3 44 yX3_findOpaque, Cond.instanceMethod yX3_findOpaque, Cond.selects RX3 yX3_findOpaque yX3_findOpaque, Cond.code yX3_findOpaque cX3_findOpaque 5 none, Cond.fieldLink RX3 70 "GlassSpill$Scene" "settings" "[I", Cond.fieldLink RX3 9 "GlassSpill$View" "raw" "[I", Cond.fieldLink RX3 15 "GlassSpill$View" "opaque" "[I", Cond.methodLink RX3 73 yX2_distanceOf, Cond.instanceMethod yX2_distanceOf, Cond.selects RX2 yX2_distanceOf yX2_distanceOf, Cond.code yX2_distanceOf cX2_distanceOf 2 (some .int), Cond.static yX4_isPixel, Cond.code yX4_isPixel cX4_isPixel 1 (some .boolean), Cond.static yX4_distance, Cond.code yX4_distance cX4_distance 4 (some .int), Cond.methodLink RX4 199 Lib.Math.abs.name, Cond.static Lib.Math.abs.name, Cond.initialized "java/lang/Math", Cond.code Lib.Math.abs.name Lib.Math.abs.code 1 (some .int)]
def wsX4_bestShare_r3 : List Cond := [Cond.methodLink RX4 196 yX4_part, Cond.static yX4_part, Cond.code yX4_part cX4_part 2 (some .int), Cond.methodLink RX4 193 yX4_partShift, Cond.static yX4_partShift, Cond.code yX4_partShift cX4_partShift 1 (some .int), Cond.methodLink RX3 76 yX3_rawOpaque, Cond.static yX3_rawOpaque, Cond.code yX3_rawOpaque cX3_rawOpaque 3 (some .int), Cond.methodLink RX3 80 yX3_closeHoles, Cond.instanceMethod yX3_closeHoles, Cond.selects RX3 yX3_closeHoles yX3_closeHoles, Cond.code yX3_closeHoles cX3_closeHoles 2 none, Cond.fieldLink RX3 33 "GlassSpill$View" "reached" "[Z", Cond.methodLink RX3 83 yX3_reachFromEdge, Cond.instanceMethod yX3_reachFromEdge, Cond.selects RX3 yX3_reachFromEdge yX3_reachFromEdge, Cond.code yX3_reachFromEdge cX3_reachFromEdge 3 none, Cond.fieldLink RX3 40 "GlassSpill$View" "queued" "I", Cond.fieldLink RX3 37 "GlassSpill$View" "queue" "[I", Cond.static yX4_isAtEdge, Cond.code yX4_isAtEdge cX4_isAtEdge 3 (some .boolean), Cond.methodLink RX3 90 yX3_reach, Cond.instanceMethod yX3_reach]
def wsX4_bestShare_r4 : List Cond := [Cond.selects RX3 yX3_reach yX3_reach, Cond.code yX3_reach cX3_reach 2 none, Cond.static yX4_beside, Cond.code yX4_beside cX4_beside 3 (some .int), Cond.methodLink RX3 48 yX3_findKinds, Cond.instanceMethod yX3_findKinds, Cond.selects RX3 yX3_findKinds yX3_findKinds, Cond.code yX3_findKinds cX3_findKinds 3 none, Cond.fieldLink RX3 18 "GlassSpill$View" "kinds" "[I", Cond.fieldLink RX3 54 "GlassSpill$Scene" "glass" "[Z", Cond.methodLink RX3 100 yX3_unmarkedKind, Cond.instanceMethod yX3_unmarkedKind, Cond.selects RX3 yX3_unmarkedKind yX3_unmarkedKind, Cond.code yX3_unmarkedKind cX3_unmarkedKind 2 (some .int), Cond.methodLink RX3 103 yX3_isOneBeside, Cond.instanceMethod yX3_isOneBeside, Cond.selects RX3 yX3_isOneBeside yX3_isOneBeside, Cond.code yX3_isOneBeside cX3_isOneBeside 5 (some .boolean), Cond.methodLink RX3 51 yX3_compose, Cond.instanceMethod yX3_compose, Cond.selects RX3 yX3_compose yX3_compose, Cond.code yX3_compose cX3_compose 4 none, Cond.fieldLink RX3 59 "GlassSpill$Scene" "screenColour" "I", Cond.fieldLink RX3 21 "GlassSpill$View" "spill" "[I"]
def wsX4_bestShare_r5 : List Cond := [Cond.fieldLink RX3 107 "GlassSpill$Scene" "front" "[I", Cond.fieldLink RX3 24 "GlassSpill$View" "taken" "[I", Cond.fieldLink RX3 27 "GlassSpill$View" "cleaned" "[I", Cond.fieldLink RX3 30 "GlassSpill$View" "composed" "[I", Cond.fieldLink RX3 117 "GlassSpill$Scene" "back" "[I", Cond.static yX4_mainPart, Cond.code yX4_mainPart cX4_mainPart 3 (some .int), Cond.static yX4_spillIn, Cond.code yX4_spillIn cX4_spillIn 4 (some .int), Cond.methodLink RX4 190 Lib.Math.max.name, Cond.static Lib.Math.max.name, Cond.code Lib.Math.max.name Lib.Math.max.code 2 (some .int), Cond.methodLink RX3 110 yX3_share, Cond.static yX3_share, Cond.code yX3_share cX3_share 2 (some .int), Cond.static yX4_composedColour, Cond.code yX4_composedColour cX4_composedColour 6 (some .int), Cond.methodLink RX4 160 yX3_spillLeft, Cond.instanceMethod yX3_spillLeft, Cond.selects RX3 yX3_spillLeft yX3_spillLeft, Cond.code yX3_spillLeft cX3_spillLeft 5 (some .int)]
def wsX4_bestShare : List Cond := .code yX4_bestShare cX4_bestShare 8 (some .int) :: ((wsX4_bestShare_r1 ++ (wsX4_bestShare_r2 ++ (wsX4_bestShare_r3 ++ (wsX4_bestShare_r4 ++ wsX4_bestShare_r5)))) ++ wsX40 ++ wsX20 ++ wsX30)
def wsX4_charactersIn : List Cond := .code yX4_charactersIn cX4_charactersIn 7 (some .int) :: ([.constantLong RX4 183 (255)])
def wsX4_put : List Cond := .code yX4_put cX4_put 4 (some .int) :: ([.fieldLink RX4 32 "GlassSpill" "pad" "LGlassSpill$Pad;", .fieldLink RX4 88 "GlassSpill$Pad" "length" "I", .methodLink RX4 163 yX4_charactersIn, .static yX4_charactersIn, .initialized RX4, .code yX4_charactersIn cX4_charactersIn 7 (some .int), .constantLong RX4 183 (255), .methodLink RX4 167 yX1_append, .instanceMethod yX1_append, .selects RX1 yX1_append yX1_append, .initialized RX1, .code yX1_append cX1_append 5 none, .fieldLink RX1 15 "GlassSpill$Pad" "length" "I", .fieldLink RX1 9 "GlassSpill$Pad" "codes" "[I", .constantLong RX1 19 (255)] ++ wsX40 ++ wsX10)
def wsX4_wipe : List Cond := .code yX4_wipe cX4_wipe 2 (some .int) :: ([.fieldLink RX4 32 "GlassSpill" "pad" "LGlassSpill$Pad;", .fieldLink RX4 88 "GlassSpill$Pad" "length" "I"] ++ wsX40 ++ wsX10)
def wsX4_undo_r1 : List Cond := [Cond.fieldLink RX4 39 "GlassSpill" "history" "LGlassSpill$History;", Cond.fieldLink RX4 150 "GlassSpill$History" "size" "I", Cond.fieldLink RX4 10 "GlassSpill" "now" "LGlassSpill$Scene;", Cond.methodLink RX4 171 yX0_takeBack, Cond.instanceMethod yX0_takeBack, Cond.selects RX0 yX0_takeBack yX0_takeBack, Cond.initialized RX0, Cond.code yX0_takeBack cX0_takeBack 3 none, Cond.fieldLink RX0 21 "GlassSpill$History" "size" "I", Cond.fieldLink RX0 11 "GlassSpill$History" "states" "[LGlassSpill$Scene;", Cond.fieldLink RX0 17 "GlassSpill$History" "oldest" "I", Cond.methodLink RX0 25 yJ9_floorMod_7cf53, Cond.static yJ9_floorMod_7cf53, Cond.initialized RJ9, Cond.code yJ9_floorMod_7cf53 cJ9_floorMod_7cf53 3 (some .int), Cond.methodLink RX0 31 yX2_copyFrom, Cond.instanceMethod yX2_copyFrom, Cond.selects RX2 yX2_copyFrom yX2_copyFrom, Cond.initialized RX2, Cond.code yX2_copyFrom cX2_copyFrom 3 none, Cond.fieldLink RX2 9 "GlassSpill$Scene" "settings" "[I", Cond.methodLink RX2 32 arraycopyName, Cond.native arraycopyName, Cond.static arraycopyName]
def wsX4_undo_r2 : List Cond := [Cond.initialized "java/lang/System", Cond.fieldLink RX2 15 "GlassSpill$Scene" "front" "[I", Cond.fieldLink RX2 18 "GlassSpill$Scene" "back" "[I", Cond.fieldLink RX2 21 "GlassSpill$Scene" "glass" "[Z", Cond.fieldLink RX2 25 "GlassSpill$Scene" "screenColour" "I"]
def wsX4_undo : List Cond := .code yX4_undo cX4_undo 1 (some .int) :: ((wsX4_undo_r1 ++ wsX4_undo_r2) ++ wsX40 ++ wsX00 ++ wsX20)
def wsX4_isSlot : List Cond := .code yX4_isSlot cX4_isSlot 1 (some .boolean) :: ([])
def wsX4_save_r1 : List Cond := [Cond.fieldLink RX4 43 "GlassSpill" "slots" "[LGlassSpill$Scene;", Cond.classLink RX4 7 RX2, Cond.instantiable RX2 5, Cond.initialized RX2, Cond.fieldLink RX4 10 "GlassSpill" "now" "LGlassSpill$Scene;", Cond.methodLink RX4 174 yX4_isSlot, Cond.static yX4_isSlot, Cond.initialized RX4, Cond.code yX4_isSlot cX4_isSlot 1 (some .boolean), Cond.methodLink RX4 9 yX2_init, Cond.instanceMethod yX2_init, Cond.code yX2_init cX2_init 1 none, Cond.methodLink RX2 3 objectInit, Cond.instanceMethod objectInit, Cond.code objectInit ⟨#[0xb1]⟩ 1 none, Cond.arrayClass .int, Cond.fieldLink RX2 9 "GlassSpill$Scene" "settings" "[I", Cond.fieldLink RX2 15 "GlassSpill$Scene" "front" "[I", Cond.fieldLink RX2 18 "GlassSpill$Scene" "back" "[I", Cond.arrayClass .boolean, Cond.fieldLink RX2 21 "GlassSpill$Scene" "glass" "[Z", Cond.fieldLink RX2 25 "GlassSpill$Scene" "screenColour" "I", Cond.methodLink RX2 32 arraycopyName, Cond.native arraycopyName]
def wsX4_save_r2 : List Cond := [Cond.static arraycopyName, Cond.initialized "java/lang/System", Cond.methodLink RX4 153 yX2_copyFrom, Cond.instanceMethod yX2_copyFrom, Cond.selects RX2 yX2_copyFrom yX2_copyFrom, Cond.code yX2_copyFrom cX2_copyFrom 3 none, Cond.methodLink RX4 95 yX2_marked, Cond.instanceMethod yX2_marked, Cond.selects RX2 yX2_marked yX2_marked, Cond.code yX2_marked cX2_marked 3 (some .int)]
def wsX4_save : List Cond := .code yX4_save cX4_save 3 (some .int) :: ((wsX4_save_r1 ++ wsX4_save_r2) ++ wsX40 ++ wsX20)
def wsX4_restore_r1 : List Cond := [Cond.fieldLink RX4 43 "GlassSpill" "slots" "[LGlassSpill$Scene;", Cond.fieldLink RX4 39 "GlassSpill" "history" "LGlassSpill$History;", Cond.fieldLink RX4 10 "GlassSpill" "now" "LGlassSpill$Scene;", Cond.methodLink RX4 174 yX4_isSlot, Cond.static yX4_isSlot, Cond.initialized RX4, Cond.code yX4_isSlot cX4_isSlot 1 (some .boolean), Cond.methodLink RX4 51 yX0_remember, Cond.instanceMethod yX0_remember, Cond.selects RX0 yX0_remember yX0_remember, Cond.initialized RX0, Cond.code yX0_remember cX0_remember 3 none, Cond.fieldLink RX0 11 "GlassSpill$History" "states" "[LGlassSpill$Scene;", Cond.fieldLink RX0 17 "GlassSpill$History" "oldest" "I", Cond.fieldLink RX0 21 "GlassSpill$History" "size" "I", Cond.methodLink RX0 25 yJ9_floorMod_7cf53, Cond.static yJ9_floorMod_7cf53, Cond.initialized RJ9, Cond.code yJ9_floorMod_7cf53 cJ9_floorMod_7cf53 3 (some .int), Cond.methodLink RX0 31 yX2_copyFrom, Cond.instanceMethod yX2_copyFrom, Cond.selects RX2 yX2_copyFrom yX2_copyFrom, Cond.initialized RX2, Cond.code yX2_copyFrom cX2_copyFrom 3 none]
def wsX4_restore_r2 : List Cond := [Cond.fieldLink RX2 9 "GlassSpill$Scene" "settings" "[I", Cond.methodLink RX2 32 arraycopyName, Cond.native arraycopyName, Cond.static arraycopyName, Cond.initialized "java/lang/System", Cond.fieldLink RX2 15 "GlassSpill$Scene" "front" "[I", Cond.fieldLink RX2 18 "GlassSpill$Scene" "back" "[I", Cond.fieldLink RX2 21 "GlassSpill$Scene" "glass" "[Z", Cond.fieldLink RX2 25 "GlassSpill$Scene" "screenColour" "I", Cond.methodLink RX4 153 yX2_copyFrom, Cond.methodLink RX4 95 yX2_marked, Cond.instanceMethod yX2_marked, Cond.selects RX2 yX2_marked yX2_marked, Cond.code yX2_marked cX2_marked 3 (some .int)]
def wsX4_restore : List Cond := .code yX4_restore cX4_restore 3 (some .int) :: ((wsX4_restore_r1 ++ wsX4_restore_r2) ++ wsX40 ++ wsX00 ++ wsX20)
def wsJ9_abs_0f7a4 : List Cond := .code yJ9_abs_0f7a4 cJ9_abs_0f7a4 1 (some .int) :: ([])
def wsJ9_max_7cf53 : List Cond := .code yJ9_max_7cf53 cJ9_max_7cf53 2 (some .int) :: ([])
def wsJ9_min_7cf53 : List Cond := .code yJ9_min_7cf53 cJ9_min_7cf53 2 (some .int) :: ([])
def wsL_cell : List Cond := .code yL_cell cL_cell 2 (some .int) :: ([.constant RL 7 (2144593335)])
def wsL_up : List Cond := .code yL_up cL_up 2 (some .int) :: ([.constant RL 8 (2147483647)])
def wsL_there : List Cond := .code yL_there cL_there 1 (some .int) :: ([])
def wsL_digit : List Cond := .code yL_digit cL_digit 2 (some .boolean) :: ([.methodLink RL 9 yX4_put, .instanceMethod yX4_put, .selects RX4 yX4_put yX4_put, .initialized RX4, .code yX4_put cX4_put 4 (some .int), .fieldLink RX4 32 "GlassSpill" "pad" "LGlassSpill$Pad;", .fieldLink RX4 88 "GlassSpill$Pad" "length" "I", .methodLink RX4 163 yX4_charactersIn, .static yX4_charactersIn, .code yX4_charactersIn cX4_charactersIn 7 (some .int), .constantLong RX4 183 (255), .methodLink RX4 167 yX1_append, .instanceMethod yX1_append, .selects RX1 yX1_append yX1_append, .initialized RX1, .code yX1_append cX1_append 5 none, .fieldLink RX1 15 "GlassSpill$Pad" "length" "I", .fieldLink RX1 9 "GlassSpill$Pad" "codes" "[I", .constantLong RX1 19 (255)] ++ wsX40 ++ wsX10)
def wsL_isRead_r1 : List Cond := [Cond.constantLong RL 29 (46), Cond.methodLink RL 15 yX4_wipe, Cond.instanceMethod yX4_wipe, Cond.selects RX4 yX4_wipe yX4_wipe, Cond.initialized RX4, Cond.code yX4_wipe cX4_wipe 2 (some .int), Cond.fieldLink RX4 32 "GlassSpill" "pad" "LGlassSpill$Pad;", Cond.fieldLink RX4 88 "GlassSpill$Pad" "length" "I", Cond.methodLink RL 19 yL_up, Cond.static yL_up, Cond.initialized RL, Cond.code yL_up cL_up 2 (some .int), Cond.constant RL 8 (2147483647), Cond.methodLink RL 25 yX4_count, Cond.instanceMethod yX4_count, Cond.selects RX4 yX4_count yX4_count, Cond.code yX4_count cX4_count 2 (some .int), Cond.fieldLink RX4 10 "GlassSpill" "now" "LGlassSpill$Scene;", Cond.fieldLink RX4 137 "GlassSpill$Scene" "settings" "[I", Cond.fieldLink RX4 22 "GlassSpill" "shown" "LGlassSpill$View;", Cond.fieldLink RX4 62 "GlassSpill$Scene" "screenColour" "I", Cond.fieldLink RX4 122 "GlassSpill$View" "opaque" "[I", Cond.fieldLink RX4 128 "GlassSpill$View" "spill" "[I", Cond.fieldLink RX4 131 "GlassSpill$View" "taken" "[I"]
def wsL_isRead_r2 : List Cond := [Cond.fieldLink RX4 101 "GlassSpill$View" "composed" "[I", Cond.fieldLink RX4 112 "GlassSpill$Scene" "back" "[I", Cond.fieldLink RX4 105 "GlassSpill$Scene" "front" "[I", Cond.fieldLink RX4 39 "GlassSpill" "history" "LGlassSpill$History;", Cond.fieldLink RX4 150 "GlassSpill$History" "size" "I", Cond.methodLink RX4 98 yX3_show, Cond.instanceMethod yX3_show, Cond.selects RX3 yX3_show yX3_show, Cond.initialized RX3, Cond.code yX3_show cX3_show 2 none, Cond.methodLink RX3 44 yX3_findOpaque, Cond.instanceMethod yX3_findOpaque, Cond.selects RX3 yX3_findOpaque yX3_findOpaque, Cond.code yX3_findOpaque cX3_findOpaque 5 none, Cond.fieldLink RX3 70 "GlassSpill$Scene" "settings" "[I", Cond.fieldLink RX3 9 "GlassSpill$View" "raw" "[I", Cond.fieldLink RX3 15 "GlassSpill$View" "opaque" "[I", Cond.methodLink RX3 73 yX2_distanceOf, Cond.instanceMethod yX2_distanceOf, Cond.selects RX2 yX2_distanceOf yX2_distanceOf, Cond.initialized RX2, Cond.code yX2_distanceOf cX2_distanceOf 2 (some .int), Cond.fieldLink RX2 15 "GlassSpill$Scene" "front" "[I", Cond.fieldLink RX2 25 "GlassSpill$Scene" "screenColour" "I"]
def wsL_isRead_r3 : List Cond := [Cond.static yX4_isPixel, Cond.code yX4_isPixel cX4_isPixel 1 (some .boolean), Cond.static yX4_distance, Cond.code yX4_distance cX4_distance 4 (some .int), Cond.methodLink RX4 199 Lib.Math.abs.name, Cond.static Lib.Math.abs.name, Cond.initialized "java/lang/Math", Cond.code Lib.Math.abs.name Lib.Math.abs.code 1 (some .int), Cond.methodLink RX4 196 yX4_part, Cond.static yX4_part, Cond.code yX4_part cX4_part 2 (some .int), Cond.methodLink RX4 193 yX4_partShift, Cond.static yX4_partShift, Cond.code yX4_partShift cX4_partShift 1 (some .int), Cond.methodLink RX3 76 yX3_rawOpaque, Cond.static yX3_rawOpaque, Cond.code yX3_rawOpaque cX3_rawOpaque 3 (some .int), Cond.methodLink RX3 80 yX3_closeHoles, Cond.instanceMethod yX3_closeHoles, Cond.selects RX3 yX3_closeHoles yX3_closeHoles, Cond.code yX3_closeHoles cX3_closeHoles 2 none, Cond.fieldLink RX3 33 "GlassSpill$View" "reached" "[Z", Cond.methodLink RX3 83 yX3_reachFromEdge, Cond.instanceMethod yX3_reachFromEdge]
def wsL_isRead_r4 : List Cond := [Cond.selects RX3 yX3_reachFromEdge yX3_reachFromEdge, Cond.code yX3_reachFromEdge cX3_reachFromEdge 3 none, Cond.fieldLink RX3 40 "GlassSpill$View" "queued" "I", Cond.fieldLink RX3 37 "GlassSpill$View" "queue" "[I", Cond.static yX4_isAtEdge, Cond.code yX4_isAtEdge cX4_isAtEdge 3 (some .boolean), Cond.methodLink RX3 90 yX3_reach, Cond.instanceMethod yX3_reach, Cond.selects RX3 yX3_reach yX3_reach, Cond.code yX3_reach cX3_reach 2 none, Cond.static yX4_beside, Cond.code yX4_beside cX4_beside 3 (some .int), Cond.methodLink RX3 48 yX3_findKinds, Cond.instanceMethod yX3_findKinds, Cond.selects RX3 yX3_findKinds yX3_findKinds, Cond.code yX3_findKinds cX3_findKinds 3 none, Cond.fieldLink RX3 18 "GlassSpill$View" "kinds" "[I", Cond.fieldLink RX3 54 "GlassSpill$Scene" "glass" "[Z", Cond.methodLink RX3 100 yX3_unmarkedKind, Cond.instanceMethod yX3_unmarkedKind, Cond.selects RX3 yX3_unmarkedKind yX3_unmarkedKind, Cond.code yX3_unmarkedKind cX3_unmarkedKind 2 (some .int), Cond.methodLink RX3 103 yX3_isOneBeside, Cond.instanceMethod yX3_isOneBeside]
def wsL_isRead_r5 : List Cond := [Cond.selects RX3 yX3_isOneBeside yX3_isOneBeside, Cond.code yX3_isOneBeside cX3_isOneBeside 5 (some .boolean), Cond.methodLink RX3 51 yX3_compose, Cond.instanceMethod yX3_compose, Cond.selects RX3 yX3_compose yX3_compose, Cond.code yX3_compose cX3_compose 4 none, Cond.fieldLink RX3 59 "GlassSpill$Scene" "screenColour" "I", Cond.fieldLink RX3 21 "GlassSpill$View" "spill" "[I", Cond.fieldLink RX3 107 "GlassSpill$Scene" "front" "[I", Cond.fieldLink RX3 24 "GlassSpill$View" "taken" "[I", Cond.fieldLink RX3 27 "GlassSpill$View" "cleaned" "[I", Cond.fieldLink RX3 30 "GlassSpill$View" "composed" "[I", Cond.fieldLink RX3 117 "GlassSpill$Scene" "back" "[I", Cond.static yX4_mainPart, Cond.code yX4_mainPart cX4_mainPart 3 (some .int), Cond.static yX4_spillIn, Cond.code yX4_spillIn cX4_spillIn 4 (some .int), Cond.methodLink RX4 190 Lib.Math.max.name, Cond.static Lib.Math.max.name, Cond.code Lib.Math.max.name Lib.Math.max.code 2 (some .int), Cond.methodLink RX3 110 yX3_share, Cond.static yX3_share, Cond.code yX3_share cX3_share 2 (some .int), Cond.static yX4_composedColour]
def wsL_isRead_r6 : List Cond := [Cond.code yX4_composedColour cX4_composedColour 6 (some .int), Cond.methodLink RX4 140 yX3_ofKind, Cond.instanceMethod yX3_ofKind, Cond.selects RX3 yX3_ofKind yX3_ofKind, Cond.code yX3_ofKind cX3_ofKind 4 (some .int), Cond.methodLink RX4 143 yX4_sum, Cond.static yX4_sum, Cond.code yX4_sum cX4_sum 6 (some .int), Cond.methodLink RX4 147 yX3_closed, Cond.instanceMethod yX3_closed, Cond.selects RX3 yX3_closed yX3_closed, Cond.code yX3_closed cX3_closed 3 (some .int), Cond.methodLink RX4 108 yX4_sameColours, Cond.static yX4_sameColours, Cond.code yX4_sameColours cX4_sameColours 4 (some .int), Cond.methodLink RX4 95 yX2_marked, Cond.instanceMethod yX2_marked, Cond.selects RX2 yX2_marked yX2_marked, Cond.code yX2_marked cX2_marked 3 (some .int), Cond.fieldLink RX2 21 "GlassSpill$Scene" "glass" "[Z", Cond.methodLink RL 9 yX4_put, Cond.instanceMethod yX4_put, Cond.selects RX4 yX4_put yX4_put, Cond.code yX4_put cX4_put 4 (some .int)]
def wsL_isRead_r7 : List Cond := [Cond.methodLink RX4 163 yX4_charactersIn, Cond.static yX4_charactersIn, Cond.code yX4_charactersIn cX4_charactersIn 7 (some .int), Cond.constantLong RX4 183 (255), Cond.methodLink RX4 167 yX1_append, Cond.instanceMethod yX1_append, Cond.selects RX1 yX1_append yX1_append, Cond.initialized RX1, Cond.code yX1_append cX1_append 5 none, Cond.fieldLink RX1 15 "GlassSpill$Pad" "length" "I", Cond.fieldLink RX1 9 "GlassSpill$Pad" "codes" "[I", Cond.constantLong RX1 19 (255), Cond.methodLink RL 31 yL_digit, Cond.static yL_digit, Cond.code yL_digit cL_digit 2 (some .boolean), Cond.methodLink RL 35 yX4_read, Cond.instanceMethod yX4_read, Cond.selects RX4 yX4_read yX4_read, Cond.code yX4_read cX4_read 4 (some .int), Cond.methodLink RX4 77 yX4_isRow, Cond.static yX4_isRow, Cond.code yX4_isRow cX4_isRow 1 (some .boolean), Cond.methodLink RX4 80 yX1_firstFault, Cond.instanceMethod yX1_firstFault]
def wsL_isRead_r8 : List Cond := [Cond.selects RX1 yX1_firstFault yX1_firstFault, Cond.code yX1_firstFault cX1_firstFault 4 (some .int), Cond.methodLink RX1 21 yX1_partOf, Cond.static yX1_partOf, Cond.code yX1_partOf cX1_partOf 1 (some .int), Cond.methodLink RX4 51 yX0_remember, Cond.instanceMethod yX0_remember, Cond.selects RX0 yX0_remember yX0_remember, Cond.initialized RX0, Cond.code yX0_remember cX0_remember 3 none, Cond.fieldLink RX0 11 "GlassSpill$History" "states" "[LGlassSpill$Scene;", Cond.fieldLink RX0 17 "GlassSpill$History" "oldest" "I", Cond.fieldLink RX0 21 "GlassSpill$History" "size" "I", Cond.methodLink RX0 25 yJ9_floorMod_7cf53, Cond.static yJ9_floorMod_7cf53, Cond.initialized RJ9, Cond.code yJ9_floorMod_7cf53 cJ9_floorMod_7cf53 3 (some .int), Cond.methodLink RX0 31 yX2_copyFrom, Cond.instanceMethod yX2_copyFrom, Cond.selects RX2 yX2_copyFrom yX2_copyFrom, Cond.code yX2_copyFrom cX2_copyFrom 3 none, Cond.fieldLink RX2 9 "GlassSpill$Scene" "settings" "[I", Cond.methodLink RX2 32 arraycopyName, Cond.native arraycopyName]
def wsL_isRead_r9 : List Cond := [Cond.static arraycopyName, Cond.initialized "java/lang/System", Cond.fieldLink RX2 18 "GlassSpill$Scene" "back" "[I", Cond.methodLink RX4 69 yX2_picture, Cond.instanceMethod yX2_picture, Cond.selects RX2 yX2_picture yX2_picture, Cond.code yX2_picture cX2_picture 2 (some (.array .int)), Cond.methodLink RX4 84 yX1_paintOn, Cond.instanceMethod yX1_paintOn, Cond.selects RX1 yX1_paintOn yX1_paintOn, Cond.code yX1_paintOn cX1_paintOn 8 (some .int)]
def wsL_isRead : List Cond := .code yL_isRead cL_isRead 14 (some .boolean) :: ((wsL_isRead_r1 ++ (wsL_isRead_r2 ++ (wsL_isRead_r3 ++ (wsL_isRead_r4 ++ (wsL_isRead_r5 ++ (wsL_isRead_r6 ++ (wsL_isRead_r7 ++ (wsL_isRead_r8 ++ wsL_isRead_r9)))))))) ++ wsX40 ++ wsX10 ++ wsX20 ++ wsX30 ++ wsX00)
def wsL_isStep_r1 : List Cond := [Cond.methodLink RL 19 yL_up, Cond.static yL_up, Cond.initialized RL, Cond.code yL_up cL_up 2 (some .int), Cond.constant RL 8 (2147483647), Cond.methodLink RL 25 yX4_count, Cond.instanceMethod yX4_count, Cond.selects RX4 yX4_count yX4_count, Cond.initialized RX4, Cond.code yX4_count cX4_count 2 (some .int), Cond.fieldLink RX4 10 "GlassSpill" "now" "LGlassSpill$Scene;", Cond.fieldLink RX4 137 "GlassSpill$Scene" "settings" "[I", Cond.fieldLink RX4 22 "GlassSpill" "shown" "LGlassSpill$View;", Cond.fieldLink RX4 62 "GlassSpill$Scene" "screenColour" "I", Cond.fieldLink RX4 122 "GlassSpill$View" "opaque" "[I", Cond.fieldLink RX4 128 "GlassSpill$View" "spill" "[I", Cond.fieldLink RX4 131 "GlassSpill$View" "taken" "[I", Cond.fieldLink RX4 101 "GlassSpill$View" "composed" "[I", Cond.fieldLink RX4 112 "GlassSpill$Scene" "back" "[I", Cond.fieldLink RX4 105 "GlassSpill$Scene" "front" "[I", Cond.fieldLink RX4 32 "GlassSpill" "pad" "LGlassSpill$Pad;", Cond.fieldLink RX4 88 "GlassSpill$Pad" "length" "I", Cond.fieldLink RX4 39 "GlassSpill" "history" "LGlassSpill$History;", Cond.fieldLink RX4 150 "GlassSpill$History" "size" "I"]
def wsL_isStep_r2 : List Cond := [Cond.methodLink RX4 98 yX3_show, Cond.instanceMethod yX3_show, Cond.selects RX3 yX3_show yX3_show, Cond.initialized RX3, Cond.code yX3_show cX3_show 2 none, Cond.methodLink RX3 44 yX3_findOpaque, Cond.instanceMethod yX3_findOpaque, Cond.selects RX3 yX3_findOpaque yX3_findOpaque, Cond.code yX3_findOpaque cX3_findOpaque 5 none, Cond.fieldLink RX3 70 "GlassSpill$Scene" "settings" "[I", Cond.fieldLink RX3 9 "GlassSpill$View" "raw" "[I", Cond.fieldLink RX3 15 "GlassSpill$View" "opaque" "[I", Cond.methodLink RX3 73 yX2_distanceOf, Cond.instanceMethod yX2_distanceOf, Cond.selects RX2 yX2_distanceOf yX2_distanceOf, Cond.initialized RX2, Cond.code yX2_distanceOf cX2_distanceOf 2 (some .int), Cond.fieldLink RX2 15 "GlassSpill$Scene" "front" "[I", Cond.fieldLink RX2 25 "GlassSpill$Scene" "screenColour" "I", Cond.static yX4_isPixel, Cond.code yX4_isPixel cX4_isPixel 1 (some .boolean), Cond.static yX4_distance, Cond.code yX4_distance cX4_distance 4 (some .int), Cond.methodLink RX4 199 Lib.Math.abs.name]
def wsL_isStep_r3 : List Cond := [Cond.static Lib.Math.abs.name, Cond.initialized "java/lang/Math", Cond.code Lib.Math.abs.name Lib.Math.abs.code 1 (some .int), Cond.methodLink RX4 196 yX4_part, Cond.static yX4_part, Cond.code yX4_part cX4_part 2 (some .int), Cond.methodLink RX4 193 yX4_partShift, Cond.static yX4_partShift, Cond.code yX4_partShift cX4_partShift 1 (some .int), Cond.methodLink RX3 76 yX3_rawOpaque, Cond.static yX3_rawOpaque, Cond.code yX3_rawOpaque cX3_rawOpaque 3 (some .int), Cond.methodLink RX3 80 yX3_closeHoles, Cond.instanceMethod yX3_closeHoles, Cond.selects RX3 yX3_closeHoles yX3_closeHoles, Cond.code yX3_closeHoles cX3_closeHoles 2 none, Cond.fieldLink RX3 33 "GlassSpill$View" "reached" "[Z", Cond.methodLink RX3 83 yX3_reachFromEdge, Cond.instanceMethod yX3_reachFromEdge, Cond.selects RX3 yX3_reachFromEdge yX3_reachFromEdge, Cond.code yX3_reachFromEdge cX3_reachFromEdge 3 none, Cond.fieldLink RX3 40 "GlassSpill$View" "queued" "I", Cond.fieldLink RX3 37 "GlassSpill$View" "queue" "[I", Cond.static yX4_isAtEdge]
def wsL_isStep_r4 : List Cond := [Cond.code yX4_isAtEdge cX4_isAtEdge 3 (some .boolean), Cond.methodLink RX3 90 yX3_reach, Cond.instanceMethod yX3_reach, Cond.selects RX3 yX3_reach yX3_reach, Cond.code yX3_reach cX3_reach 2 none, Cond.static yX4_beside, Cond.code yX4_beside cX4_beside 3 (some .int), Cond.methodLink RX3 48 yX3_findKinds, Cond.instanceMethod yX3_findKinds, Cond.selects RX3 yX3_findKinds yX3_findKinds, Cond.code yX3_findKinds cX3_findKinds 3 none, Cond.fieldLink RX3 18 "GlassSpill$View" "kinds" "[I", Cond.fieldLink RX3 54 "GlassSpill$Scene" "glass" "[Z", Cond.methodLink RX3 100 yX3_unmarkedKind, Cond.instanceMethod yX3_unmarkedKind, Cond.selects RX3 yX3_unmarkedKind yX3_unmarkedKind, Cond.code yX3_unmarkedKind cX3_unmarkedKind 2 (some .int), Cond.methodLink RX3 103 yX3_isOneBeside, Cond.instanceMethod yX3_isOneBeside, Cond.selects RX3 yX3_isOneBeside yX3_isOneBeside, Cond.code yX3_isOneBeside cX3_isOneBeside 5 (some .boolean), Cond.methodLink RX3 51 yX3_compose, Cond.instanceMethod yX3_compose, Cond.selects RX3 yX3_compose yX3_compose]
def wsL_isStep_r5 : List Cond := [Cond.code yX3_compose cX3_compose 4 none, Cond.fieldLink RX3 59 "GlassSpill$Scene" "screenColour" "I", Cond.fieldLink RX3 21 "GlassSpill$View" "spill" "[I", Cond.fieldLink RX3 107 "GlassSpill$Scene" "front" "[I", Cond.fieldLink RX3 24 "GlassSpill$View" "taken" "[I", Cond.fieldLink RX3 27 "GlassSpill$View" "cleaned" "[I", Cond.fieldLink RX3 30 "GlassSpill$View" "composed" "[I", Cond.fieldLink RX3 117 "GlassSpill$Scene" "back" "[I", Cond.static yX4_mainPart, Cond.code yX4_mainPart cX4_mainPart 3 (some .int), Cond.static yX4_spillIn, Cond.code yX4_spillIn cX4_spillIn 4 (some .int), Cond.methodLink RX4 190 Lib.Math.max.name, Cond.static Lib.Math.max.name, Cond.code Lib.Math.max.name Lib.Math.max.code 2 (some .int), Cond.methodLink RX3 110 yX3_share, Cond.static yX3_share, Cond.code yX3_share cX3_share 2 (some .int), Cond.static yX4_composedColour, Cond.code yX4_composedColour cX4_composedColour 6 (some .int), Cond.methodLink RX4 140 yX3_ofKind, Cond.instanceMethod yX3_ofKind, Cond.selects RX3 yX3_ofKind yX3_ofKind, Cond.code yX3_ofKind cX3_ofKind 4 (some .int)]
def wsL_isStep_r6 : List Cond := [Cond.methodLink RX4 143 yX4_sum, Cond.static yX4_sum, Cond.code yX4_sum cX4_sum 6 (some .int), Cond.methodLink RX4 147 yX3_closed, Cond.instanceMethod yX3_closed, Cond.selects RX3 yX3_closed yX3_closed, Cond.code yX3_closed cX3_closed 3 (some .int), Cond.methodLink RX4 108 yX4_sameColours, Cond.static yX4_sameColours, Cond.code yX4_sameColours cX4_sameColours 4 (some .int), Cond.methodLink RX4 95 yX2_marked, Cond.instanceMethod yX2_marked, Cond.selects RX2 yX2_marked yX2_marked, Cond.code yX2_marked cX2_marked 3 (some .int), Cond.fieldLink RX2 21 "GlassSpill$Scene" "glass" "[Z", Cond.methodLink RL 39 yX4_ifSet, Cond.instanceMethod yX4_ifSet, Cond.selects RX4 yX4_ifSet yX4_ifSet, Cond.code yX4_ifSet cX4_ifSet 4 (some .int), Cond.fieldLink RX4 16 "GlassSpill" "trial" "LGlassSpill$Scene;", Cond.fieldLink RX4 26 "GlassSpill" "trialView" "LGlassSpill$View;", Cond.methodLink RX4 47 yX4_errorOfSetting, Cond.instanceMethod yX4_errorOfSetting, Cond.selects RX4 yX4_errorOfSetting yX4_errorOfSetting]
def wsL_isStep_r7 : List Cond := [Cond.code yX4_errorOfSetting cX4_errorOfSetting 5 (some .int), Cond.fieldLink RX4 180 "GlassSpill" "HIGHEST_VALUES" "[I", Cond.methodLink RX4 177 yX4_isSetting, Cond.static yX4_isSetting, Cond.code yX4_isSetting cX4_isSetting 1 (some .boolean), Cond.methodLink RX4 153 yX2_copyFrom, Cond.instanceMethod yX2_copyFrom, Cond.selects RX2 yX2_copyFrom yX2_copyFrom, Cond.code yX2_copyFrom cX2_copyFrom 3 none, Cond.fieldLink RX2 9 "GlassSpill$Scene" "settings" "[I", Cond.methodLink RX2 32 arraycopyName, Cond.native arraycopyName, Cond.static arraycopyName, Cond.initialized "java/lang/System", Cond.fieldLink RX2 18 "GlassSpill$Scene" "back" "[I", Cond.methodLink RX4 55 yX2_changeSetting, Cond.instanceMethod yX2_changeSetting, Cond.selects RX2 yX2_changeSetting yX2_changeSetting, Cond.code yX2_changeSetting cX2_changeSetting 4 (some .int), Cond.methodLink RL 42 yX4_set, Cond.instanceMethod yX4_set, Cond.selects RX4 yX4_set yX4_set, Cond.code yX4_set cX4_set 4 (some .int), Cond.methodLink RX4 51 yX0_remember]
def wsL_isStep_r8 : List Cond := [Cond.instanceMethod yX0_remember, Cond.selects RX0 yX0_remember yX0_remember, Cond.initialized RX0, Cond.code yX0_remember cX0_remember 3 none, Cond.fieldLink RX0 11 "GlassSpill$History" "states" "[LGlassSpill$Scene;", Cond.fieldLink RX0 17 "GlassSpill$History" "oldest" "I", Cond.fieldLink RX0 21 "GlassSpill$History" "size" "I", Cond.methodLink RX0 25 yJ9_floorMod_7cf53, Cond.static yJ9_floorMod_7cf53, Cond.initialized RJ9, Cond.code yJ9_floorMod_7cf53 cJ9_floorMod_7cf53 3 (some .int), Cond.methodLink RX0 31 yX2_copyFrom, Cond.methodLink RL 45 yX4_screen, Cond.instanceMethod yX4_screen, Cond.selects RX4 yX4_screen yX4_screen, Cond.code yX4_screen cX4_screen 3 (some .int), Cond.methodLink RX4 58 yX4_isColour, Cond.static yX4_isColour, Cond.code yX4_isColour cX4_isColour 1 (some .boolean), Cond.methodLink RL 48 yX4_fill, Cond.instanceMethod yX4_fill, Cond.selects RX4 yX4_fill yX4_fill, Cond.code yX4_fill cX4_fill 5 (some .int), Cond.methodLink RX4 66 yX4_isPixel]
def wsL_isStep_r9 : List Cond := [Cond.methodLink RX4 69 yX2_picture, Cond.instanceMethod yX2_picture, Cond.selects RX2 yX2_picture yX2_picture, Cond.code yX2_picture cX2_picture 2 (some (.array .int)), Cond.methodLink RX4 73 yX4_fillBetween, Cond.static yX4_fillBetween, Cond.code yX4_fillBetween cX4_fillBetween 10 (some .int), Cond.methodLink RX4 185 Lib.Math.min.name, Cond.static Lib.Math.min.name, Cond.code Lib.Math.min.name Lib.Math.min.code 2 (some .int), Cond.methodLink RL 52 yL_there, Cond.static yL_there, Cond.code yL_there cL_there 1 (some .int), Cond.methodLink RL 55 yX4_pixel, Cond.instanceMethod yX4_pixel, Cond.selects RX4 yX4_pixel yX4_pixel, Cond.code yX4_pixel cX4_pixel 3 (some .int), Cond.fieldLink RX4 119 "GlassSpill$View" "raw" "[I", Cond.fieldLink RX4 125 "GlassSpill$View" "kinds" "[I", Cond.fieldLink RX4 134 "GlassSpill$View" "cleaned" "[I", Cond.methodLink RX4 115 yX2_distanceOf, Cond.methodLink RL 58 yX4_mark, Cond.instanceMethod yX4_mark, Cond.selects RX4 yX4_mark yX4_mark]
def wsL_isStep_r10 : List Cond := [Cond.code yX4_mark cX4_mark 3 (some .int), Cond.fieldLink RX4 91 "GlassSpill$Scene" "glass" "[Z", Cond.methodLink RL 62 yX4_keep, Cond.instanceMethod yX4_keep, Cond.selects RX4 yX4_keep yX4_keep, Cond.code yX4_keep cX4_keep 3 (some .int), Cond.methodLink RL 65 yL_isRead, Cond.static yL_isRead, Cond.code yL_isRead cL_isRead 14 (some .boolean), Cond.constantLong RL 29 (46), Cond.methodLink RL 15 yX4_wipe, Cond.instanceMethod yX4_wipe, Cond.selects RX4 yX4_wipe yX4_wipe, Cond.code yX4_wipe cX4_wipe 2 (some .int), Cond.methodLink RL 9 yX4_put, Cond.instanceMethod yX4_put, Cond.selects RX4 yX4_put yX4_put, Cond.code yX4_put cX4_put 4 (some .int), Cond.methodLink RX4 163 yX4_charactersIn, Cond.static yX4_charactersIn, Cond.code yX4_charactersIn cX4_charactersIn 7 (some .int), Cond.constantLong RX4 183 (255), Cond.methodLink RX4 167 yX1_append, Cond.instanceMethod yX1_append]
def wsL_isStep_r11 : List Cond := [Cond.selects RX1 yX1_append yX1_append, Cond.initialized RX1, Cond.code yX1_append cX1_append 5 none, Cond.fieldLink RX1 15 "GlassSpill$Pad" "length" "I", Cond.fieldLink RX1 9 "GlassSpill$Pad" "codes" "[I", Cond.constantLong RX1 19 (255), Cond.methodLink RL 31 yL_digit, Cond.static yL_digit, Cond.code yL_digit cL_digit 2 (some .boolean), Cond.methodLink RL 35 yX4_read, Cond.instanceMethod yX4_read, Cond.selects RX4 yX4_read yX4_read, Cond.code yX4_read cX4_read 4 (some .int), Cond.methodLink RX4 77 yX4_isRow, Cond.static yX4_isRow, Cond.code yX4_isRow cX4_isRow 1 (some .boolean), Cond.methodLink RX4 80 yX1_firstFault, Cond.instanceMethod yX1_firstFault, Cond.selects RX1 yX1_firstFault yX1_firstFault, Cond.code yX1_firstFault cX1_firstFault 4 (some .int), Cond.methodLink RX1 21 yX1_partOf, Cond.static yX1_partOf, Cond.code yX1_partOf cX1_partOf 1 (some .int), Cond.methodLink RX4 84 yX1_paintOn]
def wsL_isStep_r12 : List Cond := [Cond.instanceMethod yX1_paintOn, Cond.selects RX1 yX1_paintOn yX1_paintOn, Cond.code yX1_paintOn cX1_paintOn 8 (some .int), Cond.methodLink RL 69 yX4_undo, Cond.instanceMethod yX4_undo, Cond.selects RX4 yX4_undo yX4_undo, Cond.code yX4_undo cX4_undo 1 (some .int), Cond.methodLink RX4 171 yX0_takeBack, Cond.instanceMethod yX0_takeBack, Cond.selects RX0 yX0_takeBack yX0_takeBack, Cond.code yX0_takeBack cX0_takeBack 3 none, Cond.methodLink RL 72 yX4_save, Cond.instanceMethod yX4_save, Cond.selects RX4 yX4_save yX4_save, Cond.code yX4_save cX4_save 3 (some .int), Cond.fieldLink RX4 43 "GlassSpill" "slots" "[LGlassSpill$Scene;", Cond.classLink RX4 7 RX2, Cond.instantiable RX2 5, Cond.methodLink RX4 174 yX4_isSlot, Cond.static yX4_isSlot, Cond.code yX4_isSlot cX4_isSlot 1 (some .boolean), Cond.methodLink RX4 9 yX2_init, Cond.instanceMethod yX2_init, Cond.code yX2_init cX2_init 1 none]
def wsL_isStep_r13 : List Cond := [Cond.methodLink RX2 3 objectInit, Cond.instanceMethod objectInit, Cond.code objectInit ⟨#[0xb1]⟩ 1 none, Cond.arrayClass .int, Cond.arrayClass .boolean, Cond.methodLink RL 75 yX4_restore, Cond.instanceMethod yX4_restore, Cond.selects RX4 yX4_restore yX4_restore, Cond.code yX4_restore cX4_restore 3 (some .int), Cond.methodLink RL 78 yX4_paint, Cond.instanceMethod yX4_paint, Cond.selects RX4 yX4_paint yX4_paint, Cond.code yX4_paint cX4_paint 6 (some .int)]
def wsL_isStep : List Cond := .code yL_isStep cL_isStep 14 (some .boolean) :: ((wsL_isStep_r1 ++ (wsL_isStep_r2 ++ (wsL_isStep_r3 ++ (wsL_isStep_r4 ++ (wsL_isStep_r5 ++ (wsL_isStep_r6 ++ (wsL_isStep_r7 ++ (wsL_isStep_r8 ++ (wsL_isStep_r9 ++ (wsL_isStep_r10 ++ (wsL_isStep_r11 ++ (wsL_isStep_r12 ++ wsL_isStep_r13)))))))))))) ++ wsX40 ++ wsX20 ++ wsX30 ++ wsX10 ++ wsX00)
def wsL_areAlike_r1 : List Cond := [Cond.methodLink RL 82 yX4_bestScreen, Cond.instanceMethod yX4_bestScreen, Cond.selects RX4 yX4_bestScreen yX4_bestScreen, Cond.initialized RX4, Cond.code yX4_bestScreen cX4_bestScreen 6 (some .int), Cond.fieldLink RX4 16 "GlassSpill" "trial" "LGlassSpill$Scene;", Cond.fieldLink RX4 10 "GlassSpill" "now" "LGlassSpill$Scene;", Cond.fieldLink RX4 105 "GlassSpill$Scene" "front" "[I", Cond.fieldLink RX4 62 "GlassSpill$Scene" "screenColour" "I", Cond.fieldLink RX4 26 "GlassSpill" "trialView" "LGlassSpill$View;", Cond.methodLink RX4 153 yX2_copyFrom, Cond.instanceMethod yX2_copyFrom, Cond.selects RX2 yX2_copyFrom yX2_copyFrom, Cond.initialized RX2, Cond.code yX2_copyFrom cX2_copyFrom 3 none, Cond.fieldLink RX2 9 "GlassSpill$Scene" "settings" "[I", Cond.methodLink RX2 32 arraycopyName, Cond.native arraycopyName, Cond.static arraycopyName, Cond.initialized "java/lang/System", Cond.fieldLink RX2 15 "GlassSpill$Scene" "front" "[I", Cond.fieldLink RX2 18 "GlassSpill$Scene" "back" "[I", Cond.fieldLink RX2 21 "GlassSpill$Scene" "glass" "[Z", Cond.fieldLink RX2 25 "GlassSpill$Scene" "screenColour" "I"]
def wsL_areAlike_r2 : List Cond := [Cond.methodLink RX4 156 yX3_clearPixels, Cond.instanceMethod yX3_clearPixels, Cond.selects RX3 yX3_clearPixels yX3_clearPixels, Cond.initialized RX3, Cond.code yX3_clearPixels cX3_clearPixels 4 (some .int), Cond.fieldLink RX3 15 "GlassSpill$View" "opaque" "[I", Cond.fieldLink RX3 54 "GlassSpill$Scene" "glass" "[Z", Cond.methodLink RX3 44 yX3_findOpaque, Cond.instanceMethod yX3_findOpaque, Cond.selects RX3 yX3_findOpaque yX3_findOpaque, Cond.code yX3_findOpaque cX3_findOpaque 5 none, Cond.fieldLink RX3 70 "GlassSpill$Scene" "settings" "[I", Cond.fieldLink RX3 9 "GlassSpill$View" "raw" "[I", Cond.methodLink RX3 73 yX2_distanceOf, Cond.instanceMethod yX2_distanceOf, Cond.selects RX2 yX2_distanceOf yX2_distanceOf, Cond.code yX2_distanceOf cX2_distanceOf 2 (some .int), Cond.static yX4_isPixel, Cond.code yX4_isPixel cX4_isPixel 1 (some .boolean), Cond.static yX4_distance, Cond.code yX4_distance cX4_distance 4 (some .int), Cond.methodLink RX4 199 Lib.Math.abs.name, Cond.static Lib.Math.abs.name, Cond.initialized "java/lang/Math"]
def wsL_areAlike_r3 : List Cond := [Cond.code Lib.Math.abs.name Lib.Math.abs.code 1 (some .int), Cond.methodLink RX4 196 yX4_part, Cond.static yX4_part, Cond.code yX4_part cX4_part 2 (some .int), Cond.methodLink RX4 193 yX4_partShift, Cond.static yX4_partShift, Cond.code yX4_partShift cX4_partShift 1 (some .int), Cond.methodLink RX3 76 yX3_rawOpaque, Cond.static yX3_rawOpaque, Cond.code yX3_rawOpaque cX3_rawOpaque 3 (some .int), Cond.methodLink RX3 80 yX3_closeHoles, Cond.instanceMethod yX3_closeHoles, Cond.selects RX3 yX3_closeHoles yX3_closeHoles, Cond.code yX3_closeHoles cX3_closeHoles 2 none, Cond.fieldLink RX3 33 "GlassSpill$View" "reached" "[Z", Cond.methodLink RX3 83 yX3_reachFromEdge, Cond.instanceMethod yX3_reachFromEdge, Cond.selects RX3 yX3_reachFromEdge yX3_reachFromEdge, Cond.code yX3_reachFromEdge cX3_reachFromEdge 3 none, Cond.fieldLink RX3 40 "GlassSpill$View" "queued" "I", Cond.fieldLink RX3 37 "GlassSpill$View" "queue" "[I", Cond.static yX4_isAtEdge, Cond.code yX4_isAtEdge cX4_isAtEdge 3 (some .boolean), Cond.methodLink RX3 90 yX3_reach]
def wsL_areAlike_r4 : List Cond := [Cond.instanceMethod yX3_reach, Cond.selects RX3 yX3_reach yX3_reach, Cond.code yX3_reach cX3_reach 2 none, Cond.static yX4_beside, Cond.code yX4_beside cX4_beside 3 (some .int), Cond.methodLink RL 25 yX4_count, Cond.instanceMethod yX4_count, Cond.selects RX4 yX4_count yX4_count, Cond.code yX4_count cX4_count 2 (some .int), Cond.fieldLink RX4 137 "GlassSpill$Scene" "settings" "[I", Cond.fieldLink RX4 22 "GlassSpill" "shown" "LGlassSpill$View;", Cond.fieldLink RX4 122 "GlassSpill$View" "opaque" "[I", Cond.fieldLink RX4 128 "GlassSpill$View" "spill" "[I", Cond.fieldLink RX4 131 "GlassSpill$View" "taken" "[I", Cond.fieldLink RX4 101 "GlassSpill$View" "composed" "[I", Cond.fieldLink RX4 112 "GlassSpill$Scene" "back" "[I", Cond.fieldLink RX4 32 "GlassSpill" "pad" "LGlassSpill$Pad;", Cond.fieldLink RX4 88 "GlassSpill$Pad" "length" "I", Cond.fieldLink RX4 39 "GlassSpill" "history" "LGlassSpill$History;", Cond.fieldLink RX4 150 "GlassSpill$History" "size" "I", Cond.methodLink RX4 98 yX3_show, Cond.instanceMethod yX3_show, Cond.selects RX3 yX3_show yX3_show, Cond.code yX3_show cX3_show 2 none]
def wsL_areAlike_r5 : List Cond := [Cond.methodLink RX3 48 yX3_findKinds, Cond.instanceMethod yX3_findKinds, Cond.selects RX3 yX3_findKinds yX3_findKinds, Cond.code yX3_findKinds cX3_findKinds 3 none, Cond.fieldLink RX3 18 "GlassSpill$View" "kinds" "[I", Cond.methodLink RX3 100 yX3_unmarkedKind, Cond.instanceMethod yX3_unmarkedKind, Cond.selects RX3 yX3_unmarkedKind yX3_unmarkedKind, Cond.code yX3_unmarkedKind cX3_unmarkedKind 2 (some .int), Cond.methodLink RX3 103 yX3_isOneBeside, Cond.instanceMethod yX3_isOneBeside, Cond.selects RX3 yX3_isOneBeside yX3_isOneBeside, Cond.code yX3_isOneBeside cX3_isOneBeside 5 (some .boolean), Cond.methodLink RX3 51 yX3_compose, Cond.instanceMethod yX3_compose, Cond.selects RX3 yX3_compose yX3_compose, Cond.code yX3_compose cX3_compose 4 none, Cond.fieldLink RX3 59 "GlassSpill$Scene" "screenColour" "I", Cond.fieldLink RX3 21 "GlassSpill$View" "spill" "[I", Cond.fieldLink RX3 107 "GlassSpill$Scene" "front" "[I", Cond.fieldLink RX3 24 "GlassSpill$View" "taken" "[I", Cond.fieldLink RX3 27 "GlassSpill$View" "cleaned" "[I", Cond.fieldLink RX3 30 "GlassSpill$View" "composed" "[I", Cond.fieldLink RX3 117 "GlassSpill$Scene" "back" "[I"]
def wsL_areAlike_r6 : List Cond := [Cond.static yX4_mainPart, Cond.code yX4_mainPart cX4_mainPart 3 (some .int), Cond.static yX4_spillIn, Cond.code yX4_spillIn cX4_spillIn 4 (some .int), Cond.methodLink RX4 190 Lib.Math.max.name, Cond.static Lib.Math.max.name, Cond.code Lib.Math.max.name Lib.Math.max.code 2 (some .int), Cond.methodLink RX3 110 yX3_share, Cond.static yX3_share, Cond.code yX3_share cX3_share 2 (some .int), Cond.static yX4_composedColour, Cond.code yX4_composedColour cX4_composedColour 6 (some .int), Cond.methodLink RX4 140 yX3_ofKind, Cond.instanceMethod yX3_ofKind, Cond.selects RX3 yX3_ofKind yX3_ofKind, Cond.code yX3_ofKind cX3_ofKind 4 (some .int), Cond.methodLink RX4 143 yX4_sum, Cond.static yX4_sum, Cond.code yX4_sum cX4_sum 6 (some .int), Cond.methodLink RX4 147 yX3_closed, Cond.instanceMethod yX3_closed, Cond.selects RX3 yX3_closed yX3_closed, Cond.code yX3_closed cX3_closed 3 (some .int), Cond.methodLink RX4 108 yX4_sameColours]
def wsL_areAlike_r7 : List Cond := [Cond.static yX4_sameColours, Cond.code yX4_sameColours cX4_sameColours 4 (some .int), Cond.methodLink RX4 95 yX2_marked, Cond.instanceMethod yX2_marked, Cond.selects RX2 yX2_marked yX2_marked, Cond.code yX2_marked cX2_marked 3 (some .int), Cond.methodLink RL 55 yX4_pixel, Cond.instanceMethod yX4_pixel, Cond.selects RX4 yX4_pixel yX4_pixel, Cond.code yX4_pixel cX4_pixel 3 (some .int), Cond.fieldLink RX4 119 "GlassSpill$View" "raw" "[I", Cond.fieldLink RX4 125 "GlassSpill$View" "kinds" "[I", Cond.fieldLink RX4 134 "GlassSpill$View" "cleaned" "[I", Cond.methodLink RX4 66 yX4_isPixel, Cond.methodLink RX4 115 yX2_distanceOf, Cond.methodLink RL 52 yL_there, Cond.static yL_there, Cond.initialized RL, Cond.code yL_there cL_there 1 (some .int), Cond.methodLink RL 85 yX4_bestShare, Cond.instanceMethod yX4_bestShare, Cond.selects RX4 yX4_bestShare yX4_bestShare, Cond.code yX4_bestShare cX4_bestShare 8 (some .int), Cond.methodLink RX4 55 yX2_changeSetting]
def wsL_areAlike_r8 : List Cond := [Cond.instanceMethod yX2_changeSetting, Cond.selects RX2 yX2_changeSetting yX2_changeSetting, Cond.code yX2_changeSetting cX2_changeSetting 4 (some .int), Cond.static yX4_isSetting, Cond.code yX4_isSetting cX4_isSetting 1 (some .boolean), Cond.methodLink RX4 160 yX3_spillLeft, Cond.instanceMethod yX3_spillLeft, Cond.selects RX3 yX3_spillLeft yX3_spillLeft, Cond.code yX3_spillLeft cX3_spillLeft 5 (some .int), Cond.methodLink RL 19 yL_up, Cond.static yL_up, Cond.code yL_up cL_up 2 (some .int), Cond.constant RL 8 (2147483647), Cond.methodLink RL 39 yX4_ifSet, Cond.instanceMethod yX4_ifSet, Cond.selects RX4 yX4_ifSet yX4_ifSet, Cond.code yX4_ifSet cX4_ifSet 4 (some .int), Cond.methodLink RX4 47 yX4_errorOfSetting, Cond.instanceMethod yX4_errorOfSetting, Cond.selects RX4 yX4_errorOfSetting yX4_errorOfSetting, Cond.code yX4_errorOfSetting cX4_errorOfSetting 5 (some .int), Cond.fieldLink RX4 180 "GlassSpill" "HIGHEST_VALUES" "[I", Cond.methodLink RX4 177 yX4_isSetting, Cond.methodLink RL 88 yX4_leastNear]
def wsL_areAlike_r9 : List Cond := [Cond.instanceMethod yX4_leastNear, Cond.selects RX4 yX4_leastNear yX4_leastNear, Cond.code yX4_leastNear cX4_leastNear 3 (some .int)]
def wsL_areAlike : List Cond := .code yL_areAlike cL_areAlike 6 (some .boolean) :: ((wsL_areAlike_r1 ++ (wsL_areAlike_r2 ++ (wsL_areAlike_r3 ++ (wsL_areAlike_r4 ++ (wsL_areAlike_r5 ++ (wsL_areAlike_r6 ++ (wsL_areAlike_r7 ++ (wsL_areAlike_r8 ++ wsL_areAlike_r9)))))))) ++ wsX40 ++ wsX20 ++ wsX30 ++ wsX10 ++ wsX00)
def wsL_isWell_r1 : List Cond := [Cond.methodLink RL 55 yX4_pixel, Cond.instanceMethod yX4_pixel, Cond.selects RX4 yX4_pixel yX4_pixel, Cond.initialized RX4, Cond.code yX4_pixel cX4_pixel 3 (some .int), Cond.fieldLink RX4 22 "GlassSpill" "shown" "LGlassSpill$View;", Cond.fieldLink RX4 10 "GlassSpill" "now" "LGlassSpill$Scene;", Cond.fieldLink RX4 105 "GlassSpill$Scene" "front" "[I", Cond.fieldLink RX4 112 "GlassSpill$Scene" "back" "[I", Cond.fieldLink RX4 119 "GlassSpill$View" "raw" "[I", Cond.fieldLink RX4 122 "GlassSpill$View" "opaque" "[I", Cond.fieldLink RX4 125 "GlassSpill$View" "kinds" "[I", Cond.fieldLink RX4 128 "GlassSpill$View" "spill" "[I", Cond.fieldLink RX4 131 "GlassSpill$View" "taken" "[I", Cond.fieldLink RX4 134 "GlassSpill$View" "cleaned" "[I", Cond.fieldLink RX4 101 "GlassSpill$View" "composed" "[I", Cond.methodLink RX4 66 yX4_isPixel, Cond.static yX4_isPixel, Cond.code yX4_isPixel cX4_isPixel 1 (some .boolean), Cond.methodLink RX4 98 yX3_show, Cond.instanceMethod yX3_show, Cond.selects RX3 yX3_show yX3_show, Cond.initialized RX3, Cond.code yX3_show cX3_show 2 none]
def wsL_isWell_r2 : List Cond := [Cond.methodLink RX3 44 yX3_findOpaque, Cond.instanceMethod yX3_findOpaque, Cond.selects RX3 yX3_findOpaque yX3_findOpaque, Cond.code yX3_findOpaque cX3_findOpaque 5 none, Cond.fieldLink RX3 70 "GlassSpill$Scene" "settings" "[I", Cond.fieldLink RX3 9 "GlassSpill$View" "raw" "[I", Cond.fieldLink RX3 15 "GlassSpill$View" "opaque" "[I", Cond.methodLink RX3 73 yX2_distanceOf, Cond.instanceMethod yX2_distanceOf, Cond.selects RX2 yX2_distanceOf yX2_distanceOf, Cond.initialized RX2, Cond.code yX2_distanceOf cX2_distanceOf 2 (some .int), Cond.fieldLink RX2 15 "GlassSpill$Scene" "front" "[I", Cond.fieldLink RX2 25 "GlassSpill$Scene" "screenColour" "I", Cond.static yX4_distance, Cond.code yX4_distance cX4_distance 4 (some .int), Cond.methodLink RX4 199 Lib.Math.abs.name, Cond.static Lib.Math.abs.name, Cond.initialized "java/lang/Math", Cond.code Lib.Math.abs.name Lib.Math.abs.code 1 (some .int), Cond.methodLink RX4 196 yX4_part, Cond.static yX4_part, Cond.code yX4_part cX4_part 2 (some .int), Cond.methodLink RX4 193 yX4_partShift]
def wsL_isWell_r3 : List Cond := [Cond.static yX4_partShift, Cond.code yX4_partShift cX4_partShift 1 (some .int), Cond.methodLink RX3 76 yX3_rawOpaque, Cond.static yX3_rawOpaque, Cond.code yX3_rawOpaque cX3_rawOpaque 3 (some .int), Cond.methodLink RX3 80 yX3_closeHoles, Cond.instanceMethod yX3_closeHoles, Cond.selects RX3 yX3_closeHoles yX3_closeHoles, Cond.code yX3_closeHoles cX3_closeHoles 2 none, Cond.fieldLink RX3 33 "GlassSpill$View" "reached" "[Z", Cond.methodLink RX3 83 yX3_reachFromEdge, Cond.instanceMethod yX3_reachFromEdge, Cond.selects RX3 yX3_reachFromEdge yX3_reachFromEdge, Cond.code yX3_reachFromEdge cX3_reachFromEdge 3 none, Cond.fieldLink RX3 40 "GlassSpill$View" "queued" "I", Cond.fieldLink RX3 37 "GlassSpill$View" "queue" "[I", Cond.static yX4_isAtEdge, Cond.code yX4_isAtEdge cX4_isAtEdge 3 (some .boolean), Cond.methodLink RX3 90 yX3_reach, Cond.instanceMethod yX3_reach, Cond.selects RX3 yX3_reach yX3_reach, Cond.code yX3_reach cX3_reach 2 none, Cond.static yX4_beside, Cond.code yX4_beside cX4_beside 3 (some .int)]
def wsL_isWell_r4 : List Cond := [Cond.methodLink RX3 48 yX3_findKinds, Cond.instanceMethod yX3_findKinds, Cond.selects RX3 yX3_findKinds yX3_findKinds, Cond.code yX3_findKinds cX3_findKinds 3 none, Cond.fieldLink RX3 18 "GlassSpill$View" "kinds" "[I", Cond.fieldLink RX3 54 "GlassSpill$Scene" "glass" "[Z", Cond.methodLink RX3 100 yX3_unmarkedKind, Cond.instanceMethod yX3_unmarkedKind, Cond.selects RX3 yX3_unmarkedKind yX3_unmarkedKind, Cond.code yX3_unmarkedKind cX3_unmarkedKind 2 (some .int), Cond.methodLink RX3 103 yX3_isOneBeside, Cond.instanceMethod yX3_isOneBeside, Cond.selects RX3 yX3_isOneBeside yX3_isOneBeside, Cond.code yX3_isOneBeside cX3_isOneBeside 5 (some .boolean), Cond.methodLink RX3 51 yX3_compose, Cond.instanceMethod yX3_compose, Cond.selects RX3 yX3_compose yX3_compose, Cond.code yX3_compose cX3_compose 4 none, Cond.fieldLink RX3 59 "GlassSpill$Scene" "screenColour" "I", Cond.fieldLink RX3 21 "GlassSpill$View" "spill" "[I", Cond.fieldLink RX3 107 "GlassSpill$Scene" "front" "[I", Cond.fieldLink RX3 24 "GlassSpill$View" "taken" "[I", Cond.fieldLink RX3 27 "GlassSpill$View" "cleaned" "[I", Cond.fieldLink RX3 30 "GlassSpill$View" "composed" "[I"]
def wsL_isWell_r5 : List Cond := [Cond.fieldLink RX3 117 "GlassSpill$Scene" "back" "[I", Cond.static yX4_mainPart, Cond.code yX4_mainPart cX4_mainPart 3 (some .int), Cond.static yX4_spillIn, Cond.code yX4_spillIn cX4_spillIn 4 (some .int), Cond.methodLink RX4 190 Lib.Math.max.name, Cond.static Lib.Math.max.name, Cond.code Lib.Math.max.name Lib.Math.max.code 2 (some .int), Cond.methodLink RX3 110 yX3_share, Cond.static yX3_share, Cond.code yX3_share cX3_share 2 (some .int), Cond.static yX4_composedColour, Cond.code yX4_composedColour cX4_composedColour 6 (some .int), Cond.methodLink RX4 115 yX2_distanceOf, Cond.methodLink RL 25 yX4_count, Cond.instanceMethod yX4_count, Cond.selects RX4 yX4_count yX4_count, Cond.code yX4_count cX4_count 2 (some .int), Cond.fieldLink RX4 137 "GlassSpill$Scene" "settings" "[I", Cond.fieldLink RX4 62 "GlassSpill$Scene" "screenColour" "I", Cond.fieldLink RX4 32 "GlassSpill" "pad" "LGlassSpill$Pad;", Cond.fieldLink RX4 88 "GlassSpill$Pad" "length" "I", Cond.fieldLink RX4 39 "GlassSpill" "history" "LGlassSpill$History;", Cond.fieldLink RX4 150 "GlassSpill$History" "size" "I"]
def wsL_isWell_r6 : List Cond := [Cond.methodLink RX4 140 yX3_ofKind, Cond.instanceMethod yX3_ofKind, Cond.selects RX3 yX3_ofKind yX3_ofKind, Cond.code yX3_ofKind cX3_ofKind 4 (some .int), Cond.methodLink RX4 143 yX4_sum, Cond.static yX4_sum, Cond.code yX4_sum cX4_sum 6 (some .int), Cond.methodLink RX4 147 yX3_closed, Cond.instanceMethod yX3_closed, Cond.selects RX3 yX3_closed yX3_closed, Cond.code yX3_closed cX3_closed 3 (some .int), Cond.methodLink RX4 108 yX4_sameColours, Cond.static yX4_sameColours, Cond.code yX4_sameColours cX4_sameColours 4 (some .int), Cond.methodLink RX4 95 yX2_marked, Cond.instanceMethod yX2_marked, Cond.selects RX2 yX2_marked yX2_marked, Cond.code yX2_marked cX2_marked 3 (some .int), Cond.fieldLink RX2 21 "GlassSpill$Scene" "glass" "[Z", Cond.methodLink RL 91 yX4_row, Cond.instanceMethod yX4_row, Cond.selects RX4 yX4_row yX4_row, Cond.code yX4_row cX4_row 5 (some .int), Cond.methodLink RX4 77 yX4_isRow]
def wsL_isWell_r7 : List Cond := [Cond.static yX4_isRow, Cond.code yX4_isRow cX4_isRow 1 (some .boolean)]
def wsL_isWell : List Cond := .code yL_isWell cL_isWell 13 (some .boolean) :: ((wsL_isWell_r1 ++ (wsL_isWell_r2 ++ (wsL_isWell_r3 ++ (wsL_isWell_r4 ++ (wsL_isWell_r5 ++ (wsL_isWell_r6 ++ wsL_isWell_r7)))))) ++ wsX40 ++ wsX20 ++ wsX30 ++ wsX10 ++ wsX00)
def wsL_law_r1 : List Cond := [Cond.classLink RL 10 RX4, Cond.instantiable RX4 7, Cond.initialized RX4, Cond.methodLink RL 94 yX4_init, Cond.instanceMethod yX4_init, Cond.code yX4_init cX4_init 1 none, Cond.methodLink RX4 1 objectInit, Cond.instanceMethod objectInit, Cond.code objectInit ⟨#[0xb1]⟩ 1 none, Cond.classLink RX4 7 RX2, Cond.instantiable RX2 5, Cond.initialized RX2, Cond.fieldLink RX4 10 "GlassSpill" "now" "LGlassSpill$Scene;", Cond.fieldLink RX4 16 "GlassSpill" "trial" "LGlassSpill$Scene;", Cond.classLink RX4 19 RX3, Cond.instantiable RX3 10, Cond.initialized RX3, Cond.fieldLink RX4 22 "GlassSpill" "shown" "LGlassSpill$View;", Cond.fieldLink RX4 26 "GlassSpill" "trialView" "LGlassSpill$View;", Cond.classLink RX4 29 RX1, Cond.instantiable RX1 2, Cond.initialized RX1, Cond.fieldLink RX4 32 "GlassSpill" "pad" "LGlassSpill$Pad;", Cond.classLink RX4 36 RX0]
def wsL_law_r2 : List Cond := [Cond.instantiable RX0 3, Cond.initialized RX0, Cond.fieldLink RX4 39 "GlassSpill" "history" "LGlassSpill$History;", Cond.fieldLink RX4 43 "GlassSpill" "slots" "[LGlassSpill$Scene;", Cond.methodLink RX4 9 yX2_init, Cond.instanceMethod yX2_init, Cond.code yX2_init cX2_init 1 none, Cond.methodLink RX2 3 objectInit, Cond.arrayClass .int, Cond.fieldLink RX2 9 "GlassSpill$Scene" "settings" "[I", Cond.fieldLink RX2 15 "GlassSpill$Scene" "front" "[I", Cond.fieldLink RX2 18 "GlassSpill$Scene" "back" "[I", Cond.arrayClass .boolean, Cond.fieldLink RX2 21 "GlassSpill$Scene" "glass" "[Z", Cond.fieldLink RX2 25 "GlassSpill$Scene" "screenColour" "I", Cond.methodLink RX2 32 arraycopyName, Cond.native arraycopyName, Cond.static arraycopyName, Cond.initialized "java/lang/System", Cond.instanceMethod yX3_init, Cond.code yX3_init cX3_init 1 none, Cond.methodLink RX3 3 objectInit, Cond.fieldLink RX3 9 "GlassSpill$View" "raw" "[I", Cond.fieldLink RX3 15 "GlassSpill$View" "opaque" "[I"]
def wsL_law_r3 : List Cond := [Cond.fieldLink RX3 18 "GlassSpill$View" "kinds" "[I", Cond.fieldLink RX3 21 "GlassSpill$View" "spill" "[I", Cond.fieldLink RX3 24 "GlassSpill$View" "taken" "[I", Cond.fieldLink RX3 27 "GlassSpill$View" "cleaned" "[I", Cond.fieldLink RX3 30 "GlassSpill$View" "composed" "[I", Cond.fieldLink RX3 33 "GlassSpill$View" "reached" "[Z", Cond.fieldLink RX3 37 "GlassSpill$View" "queue" "[I", Cond.fieldLink RX3 40 "GlassSpill$View" "queued" "I", Cond.instanceMethod yX1_init, Cond.code yX1_init cX1_init 1 none, Cond.methodLink RX1 3 objectInit, Cond.fieldLink RX1 9 "GlassSpill$Pad" "codes" "[I", Cond.fieldLink RX1 15 "GlassSpill$Pad" "length" "I", Cond.methodLink RX4 38 yX0_init, Cond.instanceMethod yX0_init, Cond.code yX0_init cX0_init 2 none, Cond.methodLink RX0 3 objectInit, Cond.classLink RX0 9 RX2, Cond.fieldLink RX0 11 "GlassSpill$History" "states" "[LGlassSpill$Scene;", Cond.fieldLink RX0 17 "GlassSpill$History" "oldest" "I", Cond.fieldLink RX0 21 "GlassSpill$History" "size" "I", Cond.methodLink RX0 24 yX2_init, Cond.methodLink RL 95 yL_cell, Cond.static yL_cell]
def wsL_law_r4 : List Cond := [Cond.initialized RL, Cond.code yL_cell cL_cell 2 (some .int), Cond.constant RL 7 (2144593335), Cond.methodLink RL 99 yL_isStep, Cond.static yL_isStep, Cond.code yL_isStep cL_isStep 14 (some .boolean), Cond.methodLink RL 19 yL_up, Cond.static yL_up, Cond.code yL_up cL_up 2 (some .int), Cond.constant RL 8 (2147483647), Cond.methodLink RL 25 yX4_count, Cond.instanceMethod yX4_count, Cond.selects RX4 yX4_count yX4_count, Cond.code yX4_count cX4_count 2 (some .int), Cond.fieldLink RX4 137 "GlassSpill$Scene" "settings" "[I", Cond.fieldLink RX4 62 "GlassSpill$Scene" "screenColour" "I", Cond.fieldLink RX4 122 "GlassSpill$View" "opaque" "[I", Cond.fieldLink RX4 128 "GlassSpill$View" "spill" "[I", Cond.fieldLink RX4 131 "GlassSpill$View" "taken" "[I", Cond.fieldLink RX4 101 "GlassSpill$View" "composed" "[I", Cond.fieldLink RX4 112 "GlassSpill$Scene" "back" "[I", Cond.fieldLink RX4 105 "GlassSpill$Scene" "front" "[I", Cond.fieldLink RX4 88 "GlassSpill$Pad" "length" "I", Cond.fieldLink RX4 150 "GlassSpill$History" "size" "I"]
def wsL_law_r5 : List Cond := [Cond.methodLink RX4 98 yX3_show, Cond.instanceMethod yX3_show, Cond.selects RX3 yX3_show yX3_show, Cond.code yX3_show cX3_show 2 none, Cond.methodLink RX3 44 yX3_findOpaque, Cond.instanceMethod yX3_findOpaque, Cond.selects RX3 yX3_findOpaque yX3_findOpaque, Cond.code yX3_findOpaque cX3_findOpaque 5 none, Cond.fieldLink RX3 70 "GlassSpill$Scene" "settings" "[I", Cond.methodLink RX3 73 yX2_distanceOf, Cond.instanceMethod yX2_distanceOf, Cond.selects RX2 yX2_distanceOf yX2_distanceOf, Cond.code yX2_distanceOf cX2_distanceOf 2 (some .int), Cond.static yX4_isPixel, Cond.code yX4_isPixel cX4_isPixel 1 (some .boolean), Cond.static yX4_distance, Cond.code yX4_distance cX4_distance 4 (some .int), Cond.methodLink RX4 199 Lib.Math.abs.name, Cond.static Lib.Math.abs.name, Cond.initialized "java/lang/Math", Cond.code Lib.Math.abs.name Lib.Math.abs.code 1 (some .int), Cond.methodLink RX4 196 yX4_part, Cond.static yX4_part, Cond.code yX4_part cX4_part 2 (some .int)]
def wsL_law_r6 : List Cond := [Cond.methodLink RX4 193 yX4_partShift, Cond.static yX4_partShift, Cond.code yX4_partShift cX4_partShift 1 (some .int), Cond.methodLink RX3 76 yX3_rawOpaque, Cond.static yX3_rawOpaque, Cond.code yX3_rawOpaque cX3_rawOpaque 3 (some .int), Cond.methodLink RX3 80 yX3_closeHoles, Cond.instanceMethod yX3_closeHoles, Cond.selects RX3 yX3_closeHoles yX3_closeHoles, Cond.code yX3_closeHoles cX3_closeHoles 2 none, Cond.methodLink RX3 83 yX3_reachFromEdge, Cond.instanceMethod yX3_reachFromEdge, Cond.selects RX3 yX3_reachFromEdge yX3_reachFromEdge, Cond.code yX3_reachFromEdge cX3_reachFromEdge 3 none, Cond.static yX4_isAtEdge, Cond.code yX4_isAtEdge cX4_isAtEdge 3 (some .boolean), Cond.methodLink RX3 90 yX3_reach, Cond.instanceMethod yX3_reach, Cond.selects RX3 yX3_reach yX3_reach, Cond.code yX3_reach cX3_reach 2 none, Cond.static yX4_beside, Cond.code yX4_beside cX4_beside 3 (some .int), Cond.methodLink RX3 48 yX3_findKinds, Cond.instanceMethod yX3_findKinds]
def wsL_law_r7 : List Cond := [Cond.selects RX3 yX3_findKinds yX3_findKinds, Cond.code yX3_findKinds cX3_findKinds 3 none, Cond.fieldLink RX3 54 "GlassSpill$Scene" "glass" "[Z", Cond.methodLink RX3 100 yX3_unmarkedKind, Cond.instanceMethod yX3_unmarkedKind, Cond.selects RX3 yX3_unmarkedKind yX3_unmarkedKind, Cond.code yX3_unmarkedKind cX3_unmarkedKind 2 (some .int), Cond.methodLink RX3 103 yX3_isOneBeside, Cond.instanceMethod yX3_isOneBeside, Cond.selects RX3 yX3_isOneBeside yX3_isOneBeside, Cond.code yX3_isOneBeside cX3_isOneBeside 5 (some .boolean), Cond.methodLink RX3 51 yX3_compose, Cond.instanceMethod yX3_compose, Cond.selects RX3 yX3_compose yX3_compose, Cond.code yX3_compose cX3_compose 4 none, Cond.fieldLink RX3 59 "GlassSpill$Scene" "screenColour" "I", Cond.fieldLink RX3 107 "GlassSpill$Scene" "front" "[I", Cond.fieldLink RX3 117 "GlassSpill$Scene" "back" "[I", Cond.static yX4_mainPart, Cond.code yX4_mainPart cX4_mainPart 3 (some .int), Cond.static yX4_spillIn, Cond.code yX4_spillIn cX4_spillIn 4 (some .int), Cond.methodLink RX4 190 Lib.Math.max.name, Cond.static Lib.Math.max.name]
def wsL_law_r8 : List Cond := [Cond.code Lib.Math.max.name Lib.Math.max.code 2 (some .int), Cond.methodLink RX3 110 yX3_share, Cond.static yX3_share, Cond.code yX3_share cX3_share 2 (some .int), Cond.static yX4_composedColour, Cond.code yX4_composedColour cX4_composedColour 6 (some .int), Cond.methodLink RX4 140 yX3_ofKind, Cond.instanceMethod yX3_ofKind, Cond.selects RX3 yX3_ofKind yX3_ofKind, Cond.code yX3_ofKind cX3_ofKind 4 (some .int), Cond.methodLink RX4 143 yX4_sum, Cond.static yX4_sum, Cond.code yX4_sum cX4_sum 6 (some .int), Cond.methodLink RX4 147 yX3_closed, Cond.instanceMethod yX3_closed, Cond.selects RX3 yX3_closed yX3_closed, Cond.code yX3_closed cX3_closed 3 (some .int), Cond.methodLink RX4 108 yX4_sameColours, Cond.static yX4_sameColours, Cond.code yX4_sameColours cX4_sameColours 4 (some .int), Cond.methodLink RX4 95 yX2_marked, Cond.instanceMethod yX2_marked, Cond.selects RX2 yX2_marked yX2_marked, Cond.code yX2_marked cX2_marked 3 (some .int)]
def wsL_law_r9 : List Cond := [Cond.methodLink RL 39 yX4_ifSet, Cond.instanceMethod yX4_ifSet, Cond.selects RX4 yX4_ifSet yX4_ifSet, Cond.code yX4_ifSet cX4_ifSet 4 (some .int), Cond.methodLink RX4 47 yX4_errorOfSetting, Cond.instanceMethod yX4_errorOfSetting, Cond.selects RX4 yX4_errorOfSetting yX4_errorOfSetting, Cond.code yX4_errorOfSetting cX4_errorOfSetting 5 (some .int), Cond.fieldLink RX4 180 "GlassSpill" "HIGHEST_VALUES" "[I", Cond.methodLink RX4 177 yX4_isSetting, Cond.static yX4_isSetting, Cond.code yX4_isSetting cX4_isSetting 1 (some .boolean), Cond.methodLink RX4 153 yX2_copyFrom, Cond.instanceMethod yX2_copyFrom, Cond.selects RX2 yX2_copyFrom yX2_copyFrom, Cond.code yX2_copyFrom cX2_copyFrom 3 none, Cond.methodLink RX4 55 yX2_changeSetting, Cond.instanceMethod yX2_changeSetting, Cond.selects RX2 yX2_changeSetting yX2_changeSetting, Cond.code yX2_changeSetting cX2_changeSetting 4 (some .int), Cond.methodLink RL 42 yX4_set, Cond.instanceMethod yX4_set, Cond.selects RX4 yX4_set yX4_set, Cond.code yX4_set cX4_set 4 (some .int)]
def wsL_law_r10 : List Cond := [Cond.methodLink RX4 51 yX0_remember, Cond.instanceMethod yX0_remember, Cond.selects RX0 yX0_remember yX0_remember, Cond.code yX0_remember cX0_remember 3 none, Cond.methodLink RX0 25 yJ9_floorMod_7cf53, Cond.static yJ9_floorMod_7cf53, Cond.initialized RJ9, Cond.code yJ9_floorMod_7cf53 cJ9_floorMod_7cf53 3 (some .int), Cond.methodLink RX0 31 yX2_copyFrom, Cond.methodLink RL 45 yX4_screen, Cond.instanceMethod yX4_screen, Cond.selects RX4 yX4_screen yX4_screen, Cond.code yX4_screen cX4_screen 3 (some .int), Cond.methodLink RX4 58 yX4_isColour, Cond.static yX4_isColour, Cond.code yX4_isColour cX4_isColour 1 (some .boolean), Cond.methodLink RL 48 yX4_fill, Cond.instanceMethod yX4_fill, Cond.selects RX4 yX4_fill yX4_fill, Cond.code yX4_fill cX4_fill 5 (some .int), Cond.methodLink RX4 66 yX4_isPixel, Cond.methodLink RX4 69 yX2_picture, Cond.instanceMethod yX2_picture, Cond.selects RX2 yX2_picture yX2_picture]
def wsL_law_r11 : List Cond := [Cond.code yX2_picture cX2_picture 2 (some (.array .int)), Cond.methodLink RX4 73 yX4_fillBetween, Cond.static yX4_fillBetween, Cond.code yX4_fillBetween cX4_fillBetween 10 (some .int), Cond.methodLink RX4 185 Lib.Math.min.name, Cond.static Lib.Math.min.name, Cond.code Lib.Math.min.name Lib.Math.min.code 2 (some .int), Cond.methodLink RL 52 yL_there, Cond.static yL_there, Cond.code yL_there cL_there 1 (some .int), Cond.methodLink RL 55 yX4_pixel, Cond.instanceMethod yX4_pixel, Cond.selects RX4 yX4_pixel yX4_pixel, Cond.code yX4_pixel cX4_pixel 3 (some .int), Cond.fieldLink RX4 119 "GlassSpill$View" "raw" "[I", Cond.fieldLink RX4 125 "GlassSpill$View" "kinds" "[I", Cond.fieldLink RX4 134 "GlassSpill$View" "cleaned" "[I", Cond.methodLink RX4 115 yX2_distanceOf, Cond.methodLink RL 58 yX4_mark, Cond.instanceMethod yX4_mark, Cond.selects RX4 yX4_mark yX4_mark, Cond.code yX4_mark cX4_mark 3 (some .int), Cond.fieldLink RX4 91 "GlassSpill$Scene" "glass" "[Z", Cond.methodLink RL 62 yX4_keep]
def wsL_law_r12 : List Cond := [Cond.instanceMethod yX4_keep, Cond.selects RX4 yX4_keep yX4_keep, Cond.code yX4_keep cX4_keep 3 (some .int), Cond.methodLink RL 65 yL_isRead, Cond.static yL_isRead, Cond.code yL_isRead cL_isRead 14 (some .boolean), Cond.constantLong RL 29 (46), Cond.methodLink RL 15 yX4_wipe, Cond.instanceMethod yX4_wipe, Cond.selects RX4 yX4_wipe yX4_wipe, Cond.code yX4_wipe cX4_wipe 2 (some .int), Cond.methodLink RL 9 yX4_put, Cond.instanceMethod yX4_put, Cond.selects RX4 yX4_put yX4_put, Cond.code yX4_put cX4_put 4 (some .int), Cond.methodLink RX4 163 yX4_charactersIn, Cond.static yX4_charactersIn, Cond.code yX4_charactersIn cX4_charactersIn 7 (some .int), Cond.constantLong RX4 183 (255), Cond.methodLink RX4 167 yX1_append, Cond.instanceMethod yX1_append, Cond.selects RX1 yX1_append yX1_append, Cond.code yX1_append cX1_append 5 none, Cond.constantLong RX1 19 (255)]
def wsL_law_r13 : List Cond := [Cond.methodLink RL 31 yL_digit, Cond.static yL_digit, Cond.code yL_digit cL_digit 2 (some .boolean), Cond.methodLink RL 35 yX4_read, Cond.instanceMethod yX4_read, Cond.selects RX4 yX4_read yX4_read, Cond.code yX4_read cX4_read 4 (some .int), Cond.methodLink RX4 77 yX4_isRow, Cond.static yX4_isRow, Cond.code yX4_isRow cX4_isRow 1 (some .boolean), Cond.methodLink RX4 80 yX1_firstFault, Cond.instanceMethod yX1_firstFault, Cond.selects RX1 yX1_firstFault yX1_firstFault, Cond.code yX1_firstFault cX1_firstFault 4 (some .int), Cond.methodLink RX1 21 yX1_partOf, Cond.static yX1_partOf, Cond.code yX1_partOf cX1_partOf 1 (some .int), Cond.methodLink RX4 84 yX1_paintOn, Cond.instanceMethod yX1_paintOn, Cond.selects RX1 yX1_paintOn yX1_paintOn, Cond.code yX1_paintOn cX1_paintOn 8 (some .int), Cond.methodLink RL 69 yX4_undo, Cond.instanceMethod yX4_undo, Cond.selects RX4 yX4_undo yX4_undo]
def wsL_law_r14 : List Cond := [Cond.code yX4_undo cX4_undo 1 (some .int), Cond.methodLink RX4 171 yX0_takeBack, Cond.instanceMethod yX0_takeBack, Cond.selects RX0 yX0_takeBack yX0_takeBack, Cond.code yX0_takeBack cX0_takeBack 3 none, Cond.methodLink RL 72 yX4_save, Cond.instanceMethod yX4_save, Cond.selects RX4 yX4_save yX4_save, Cond.code yX4_save cX4_save 3 (some .int), Cond.methodLink RX4 174 yX4_isSlot, Cond.static yX4_isSlot, Cond.code yX4_isSlot cX4_isSlot 1 (some .boolean), Cond.methodLink RL 75 yX4_restore, Cond.instanceMethod yX4_restore, Cond.selects RX4 yX4_restore yX4_restore, Cond.code yX4_restore cX4_restore 3 (some .int), Cond.methodLink RL 78 yX4_paint, Cond.instanceMethod yX4_paint, Cond.selects RX4 yX4_paint yX4_paint, Cond.code yX4_paint cX4_paint 6 (some .int), Cond.methodLink RL 103 yL_isWell, Cond.static yL_isWell, Cond.code yL_isWell cL_isWell 13 (some .boolean), Cond.methodLink RL 91 yX4_row]
def wsL_law_r15 : List Cond := [Cond.instanceMethod yX4_row, Cond.selects RX4 yX4_row yX4_row, Cond.code yX4_row cX4_row 5 (some .int), Cond.methodLink RL 107 yL_areAlike, Cond.static yL_areAlike, Cond.code yL_areAlike cL_areAlike 6 (some .boolean), Cond.methodLink RL 82 yX4_bestScreen, Cond.instanceMethod yX4_bestScreen, Cond.selects RX4 yX4_bestScreen yX4_bestScreen, Cond.code yX4_bestScreen cX4_bestScreen 6 (some .int), Cond.methodLink RX4 156 yX3_clearPixels, Cond.instanceMethod yX3_clearPixels, Cond.selects RX3 yX3_clearPixels yX3_clearPixels, Cond.code yX3_clearPixels cX3_clearPixels 4 (some .int), Cond.methodLink RL 85 yX4_bestShare, Cond.instanceMethod yX4_bestShare, Cond.selects RX4 yX4_bestShare yX4_bestShare, Cond.code yX4_bestShare cX4_bestShare 8 (some .int), Cond.methodLink RX4 160 yX3_spillLeft, Cond.instanceMethod yX3_spillLeft, Cond.selects RX3 yX3_spillLeft yX3_spillLeft, Cond.code yX3_spillLeft cX3_spillLeft 5 (some .int), Cond.methodLink RL 88 yX4_leastNear, Cond.instanceMethod yX4_leastNear]
def wsL_law_r16 : List Cond := [Cond.selects RX4 yX4_leastNear yX4_leastNear, Cond.code yX4_leastNear cX4_leastNear 3 (some .int)]
def wsL_law : List Cond := (wsL_law_r1 ++ (wsL_law_r2 ++ (wsL_law_r3 ++ (wsL_law_r4 ++ (wsL_law_r5 ++ (wsL_law_r6 ++ (wsL_law_r7 ++ (wsL_law_r8 ++ (wsL_law_r9 ++ (wsL_law_r10 ++ (wsL_law_r11 ++ (wsL_law_r12 ++ (wsL_law_r13 ++ (wsL_law_r14 ++ (wsL_law_r15 ++ wsL_law_r16))))))))))))))) ++ wsX40 ++ wsX20 ++ wsX30 ++ wsX10 ++ wsX00 ++ ([] : List Cond)
theorem lw_memBy (ws : List Cond) (ps : List Nat) (hp : ws = ps.filterMap (fun i => lw_tbl[i]?)) : ∀ w ∈ ws, w ∈ lw_tbl := by
  intro w hw
  rw [hp] at hw
  obtain ⟨i, -, hi⟩ := List.mem_filterMap.mp hw
  exact List.mem_of_getElem? hi
set_option maxRecDepth 20000 in
theorem wsL_law_r1_in : ∀ w ∈ wsL_law_r1, w ∈ lw_tbl := lw_memBy _ [17, 18, 10, 19, 20, 21, 22, 23, 24, 25, 26, 11, 142, 143, 64, 65, 13, 144, 145, 108, 109, 14, 146, 122] (by decide +kernel)
set_option maxRecDepth 20000 in
theorem wsL_law_r2_in : ∀ w ∈ wsL_law_r2, w ∈ lw_tbl := lw_memBy _ [123, 15, 147, 148, 27, 28, 29, 30, 62, 36, 39, 42, 63, 45, 48, 33, 35, 34, 12, 67, 68, 69, 70, 72] (by decide +kernel)
set_option maxRecDepth 20000 in
theorem wsL_law_r3_in : ∀ w ∈ wsL_law_r3, w ∈ lw_tbl := lw_memBy _ [74, 76, 78, 80, 82, 84, 85, 86, 111, 112, 113, 114, 115, 124, 125, 126, 127, 128, 131, 132, 133, 130, 164, 165] (by decide +kernel)
set_option maxRecDepth 20000 in
theorem wsL_law_r4_in : ∀ w ∈ wsL_law_r4, w ∈ lw_tbl := lw_memBy _ [9, 166, 167, 168, 169, 170, 171, 172, 173, 174, 175, 176, 177, 178, 38, 49, 73, 77, 79, 83, 43, 40, 116, 134] (by decide +kernel)
set_option maxRecDepth 20000 in
theorem wsL_law_r5_in : ∀ w ∈ wsL_law_r5, w ∈ lw_tbl := lw_memBy _ [179, 180, 181, 182, 183, 185, 0, 186, 37, 187, 188, 189, 190, 192, 193, 195, 196, 203, 204, 16, 205, 197, 198, 199] (by decide +kernel)
set_option maxRecDepth 20000 in
theorem wsL_law_r6_in : ∀ w ∈ wsL_law_r6, w ∈ lw_tbl := lw_memBy _ [200, 201, 202, 206, 207, 208, 209, 211, 1, 212, 213, 215, 2, 216, 218, 219, 220, 222, 3, 223, 226, 227, 228, 230] (by decide +kernel)
set_option maxRecDepth 20000 in
theorem wsL_law_r7_in : ∀ w ∈ wsL_law_r7, w ∈ lw_tbl := lw_memBy _ [4, 231, 46, 232, 234, 5, 235, 236, 238, 6, 239, 240, 242, 7, 243, 50, 41, 44, 245, 246, 248, 249, 250, 251] (by decide +kernel)
set_option maxRecDepth 20000 in
theorem wsL_law_r8_in : ∀ w ∈ wsL_law_r8, w ∈ lw_tbl := lw_memBy _ [252, 253, 254, 255, 258, 259, 260, 261, 262, 263, 264, 265, 266, 267, 268, 269, 270, 271, 272, 273, 274, 275, 276, 277] (by decide +kernel)
set_option maxRecDepth 20000 in
theorem wsL_law_r9_in : ∀ w ∈ wsL_law_r9, w ∈ lw_tbl := lw_memBy _ [278, 279, 280, 281, 282, 284, 8, 285, 289, 286, 287, 288, 291, 292, 293, 294, 295, 296, 297, 298, 300, 301, 302, 303] (by decide +kernel)
set_option maxRecDepth 20000 in
theorem wsL_law_r10_in : ∀ w ∈ wsL_law_r10, w ∈ lw_tbl := lw_memBy _ [304, 305, 306, 307, 308, 309, 16, 310, 311, 312, 313, 314, 315, 316, 317, 318, 319, 320, 321, 322, 323, 324, 325, 326] (by decide +kernel)
set_option maxRecDepth 20000 in
theorem wsL_law_r11_in : ∀ w ∈ wsL_law_r11, w ∈ lw_tbl := lw_memBy _ [327, 328, 329, 330, 331, 332, 333, 334, 335, 336, 337, 338, 339, 340, 71, 75, 81, 341, 342, 343, 344, 345, 47, 346] (by decide +kernel)
set_option maxRecDepth 20000 in
theorem wsL_law_r12_in : ∀ w ∈ wsL_law_r12, w ∈ lw_tbl := lw_memBy _ [347, 348, 349, 350, 351, 352, 357, 353, 354, 355, 356, 358, 359, 360, 361, 362, 363, 364, 365, 366, 367, 368, 369, 370] (by decide +kernel)
set_option maxRecDepth 20000 in
theorem wsL_law_r13_in : ∀ w ∈ wsL_law_r13, w ∈ lw_tbl := lw_memBy _ [371, 372, 373, 374, 375, 376, 377, 378, 379, 380, 381, 382, 383, 384, 385, 386, 387, 388, 389, 390, 391, 393, 394, 395] (by decide +kernel)
set_option maxRecDepth 20000 in
theorem wsL_law_r14_in : ∀ w ∈ wsL_law_r14, w ∈ lw_tbl := lw_memBy _ [396, 397, 398, 399, 400, 401, 402, 403, 404, 405, 406, 407, 408, 409, 410, 411, 412, 413, 414, 415, 439, 440, 441, 442] (by decide +kernel)
set_option maxRecDepth 20000 in
theorem wsL_law_r15_in : ∀ w ∈ wsL_law_r15, w ∈ lw_tbl := lw_memBy _ [443, 444, 445, 416, 417, 418, 419, 420, 421, 422, 423, 424, 425, 426, 427, 428, 429, 430, 431, 432, 433, 434, 435, 436] (by decide +kernel)
set_option maxRecDepth 20000 in
theorem wsL_law_r16_in : ∀ w ∈ wsL_law_r16, w ∈ lw_tbl := lw_memBy _ [437, 438] (by decide +kernel)
set_option maxRecDepth 20000 in
theorem wsX00_in : ∀ w ∈ wsX00, w ∈ lw_tbl := lw_memBy _ [135, 137, 139] (by decide +kernel)
set_option maxRecDepth 20000 in
theorem wsX10_in : ∀ w ∈ wsX10, w ∈ lw_tbl := lw_memBy _ [117, 119] (by decide +kernel)
set_option maxRecDepth 20000 in
theorem wsX20_in : ∀ w ∈ wsX20, w ∈ lw_tbl := lw_memBy _ [51, 53, 55, 57, 59] (by decide +kernel)
set_option maxRecDepth 20000 in
theorem wsX30_in : ∀ w ∈ wsX30, w ∈ lw_tbl := lw_memBy _ [87, 89, 91, 93, 95, 97, 99, 101, 103, 105] (by decide +kernel)
set_option maxRecDepth 20000 in
theorem wsX40_in : ∀ w ∈ wsX40, w ∈ lw_tbl := lw_memBy _ [149, 151, 153, 155, 157, 159, 161] (by decide +kernel)
theorem wsL_law_in : ∀ w ∈ wsL_law, w ∈ lw_tbl := List.forall_mem_append.mpr ⟨List.forall_mem_append.mpr ⟨List.forall_mem_append.mpr ⟨List.forall_mem_append.mpr ⟨List.forall_mem_append.mpr ⟨List.forall_mem_append.mpr ⟨List.forall_mem_append.mpr ⟨wsL_law_r1_in, List.forall_mem_append.mpr ⟨wsL_law_r2_in, List.forall_mem_append.mpr ⟨wsL_law_r3_in, List.forall_mem_append.mpr ⟨wsL_law_r4_in, List.forall_mem_append.mpr ⟨wsL_law_r5_in, List.forall_mem_append.mpr ⟨wsL_law_r6_in, List.forall_mem_append.mpr ⟨wsL_law_r7_in, List.forall_mem_append.mpr ⟨wsL_law_r8_in, List.forall_mem_append.mpr ⟨wsL_law_r9_in, List.forall_mem_append.mpr ⟨wsL_law_r10_in, List.forall_mem_append.mpr ⟨wsL_law_r11_in, List.forall_mem_append.mpr ⟨wsL_law_r12_in, List.forall_mem_append.mpr ⟨wsL_law_r13_in, List.forall_mem_append.mpr ⟨wsL_law_r14_in, List.forall_mem_append.mpr ⟨wsL_law_r15_in, wsL_law_r16_in⟩⟩⟩⟩⟩⟩⟩⟩⟩⟩⟩⟩⟩⟩⟩, wsX40_in⟩, wsX20_in⟩, wsX30_in⟩, wsX10_in⟩, wsX00_in⟩, fun _ h => absurd h List.not_mem_nil⟩
theorem inlX0 : ∀ w ∈ wsX00, w ∈ wsL_law := fun _ h => List.mem_append_left _ (List.mem_append_right _ h)
theorem inX0 : ∀ w ∈ wsX00, w ∈ lw_tbl := fun w h => wsL_law_in w (inlX0 w h)
theorem inlX1 : ∀ w ∈ wsX10, w ∈ wsL_law := fun _ h => List.mem_append_left _ (List.mem_append_left _ (List.mem_append_right _ h))
theorem inX1 : ∀ w ∈ wsX10, w ∈ lw_tbl := fun w h => wsL_law_in w (inlX1 w h)
theorem inlX2 : ∀ w ∈ wsX20, w ∈ wsL_law := fun _ h => List.mem_append_left _ (List.mem_append_left _ (List.mem_append_left _ (List.mem_append_left _ (List.mem_append_right _ h))))
theorem inX2 : ∀ w ∈ wsX20, w ∈ lw_tbl := fun w h => wsL_law_in w (inlX2 w h)
theorem inlX3 : ∀ w ∈ wsX30, w ∈ wsL_law := fun _ h => List.mem_append_left _ (List.mem_append_left _ (List.mem_append_left _ (List.mem_append_right _ h)))
theorem inX3 : ∀ w ∈ wsX30, w ∈ lw_tbl := fun w h => wsL_law_in w (inlX3 w h)
theorem inlX4 : ∀ w ∈ wsX40, w ∈ wsL_law := fun _ h => List.mem_append_left _ (List.mem_append_left _ (List.mem_append_left _ (List.mem_append_left _ (List.mem_append_left _ (List.mem_append_right _ h)))))
theorem inX4 : ∀ w ∈ wsX40, w ∈ lw_tbl := fun w h => wsL_law_in w (inlX4 w h)
theorem inX5 : ∀ w ∈ wsX50, w ∈ lw_tbl := by decide +kernel
theorem inJ9 : ∀ w ∈ wsJ90, w ∈ lw_tbl := by decide +kernel
theorem inJ10 : ∀ w ∈ wsJ100, w ∈ lw_tbl := by decide +kernel
set_option maxRecDepth 20000 in
theorem ggX0_init_X2_init : GoodIn wsX0_init wsX2_init := goodIn_r _ [12, 13, 2, 3, 14, 15, 16, 17, 18, 19, 20, 21, 22, 23, 24, 28, 29, 30, 31, 32] (by decide +kernel) (by decide +kernel)
set_option maxRecDepth 20000 in
theorem gX0_init_X2_init : GoodIn wsX0_init (wsX2_init) := ggX0_init_X2_init
theorem dX0_init_0 : decode cX0_init 0 = .ok (.aload_n 0, 1) := by decide +kernel
theorem dX0_init_1 : decode cX0_init 1 = .ok (.invokespecial 3, 3) := by decide +kernel
theorem dX0_init_4 : decode cX0_init 4 = .ok (.aload_n 0, 1) := by decide +kernel
theorem dX0_init_5 : decode cX0_init 5 = .ok (.bipush 6, 2) := by decide +kernel
theorem dX0_init_7 : decode cX0_init 7 = .ok (.anewarray 9, 3) := by decide +kernel
theorem dX0_init_10 : decode cX0_init 10 = .ok (.putfield 11, 3) := by decide +kernel
theorem dX0_init_13 : decode cX0_init 13 = .ok (.aload_n 0, 1) := by decide +kernel
theorem dX0_init_14 : decode cX0_init 14 = .ok (.iconst 0, 1) := by decide +kernel
theorem dX0_init_15 : decode cX0_init 15 = .ok (.putfield 17, 3) := by decide +kernel
theorem dX0_init_18 : decode cX0_init 18 = .ok (.aload_n 0, 1) := by decide +kernel
theorem dX0_init_19 : decode cX0_init 19 = .ok (.iconst 0, 1) := by decide +kernel
theorem dX0_init_20 : decode cX0_init 20 = .ok (.putfield 21, 3) := by decide +kernel
theorem dX0_init_23 : decode cX0_init 23 = .ok (.iconst 0, 1) := by decide +kernel
theorem dX0_init_24 : decode cX0_init 24 = .ok (.istore_n 1, 1) := by decide +kernel
theorem dX0_init_25 : decode cX0_init 25 = .ok (.iload_n 1, 1) := by decide +kernel
theorem dX0_init_26 : decode cX0_init 26 = .ok (.bipush 6, 2) := by decide +kernel
theorem dX0_init_28 : decode cX0_init 28 = .ok (.if_icmp .ge 22, 3) := by decide +kernel
theorem dX0_init_31 : decode cX0_init 31 = .ok (.aload_n 0, 1) := by decide +kernel
theorem dX0_init_32 : decode cX0_init 32 = .ok (.getfield 11, 3) := by decide +kernel
theorem dX0_init_35 : decode cX0_init 35 = .ok (.iload_n 1, 1) := by decide +kernel
theorem dX0_init_36 : decode cX0_init 36 = .ok (.new 9, 3) := by decide +kernel
theorem dX0_init_39 : decode cX0_init 39 = .ok (.dup, 1) := by decide +kernel
theorem dX0_init_40 : decode cX0_init 40 = .ok (.invokespecial 24, 3) := by decide +kernel
theorem dX0_init_43 : decode cX0_init 43 = .ok (.aastore, 1) := by decide +kernel
theorem dX0_init_44 : decode cX0_init 44 = .ok (.iinc 1 1, 3) := by decide +kernel
theorem dX0_init_47 : decode cX0_init 47 = .ok (.goto (-22), 3) := by decide +kernel
theorem dX0_init_50 : decode cX0_init 50 = .ok (.return_, 1) := by decide +kernel
set_option maxRecDepth 20000 in
theorem ggX0_remember_J9_floorMod_7cf53 : GoodIn wsX0_remember wsJ9_floorMod_7cf53 := goodIn_r _ [7] (by decide +kernel) (by decide +kernel)
set_option maxRecDepth 20000 in
theorem gX0_remember_J9_floorMod_7cf53 : GoodIn wsX0_remember (va_wsS RX0 25 yJ9_floorMod_7cf53 wsJ9_floorMod_7cf53) := goodIn_app (goodIn_of _ (by decide +kernel)) ggX0_remember_J9_floorMod_7cf53
set_option maxRecDepth 20000 in
theorem ggX0_remember_X2_copyFrom : GoodIn wsX0_remember wsX2_copyFrom := goodIn_r _ [12, 13, 14, 15, 16, 17, 18, 19, 20, 21, 25, 26, 27, 28, 29] (by decide +kernel) (by decide +kernel)
set_option maxRecDepth 20000 in
theorem gX0_remember_X2_copyFrom : GoodIn wsX0_remember (wsV RX0 31 RX2 yX2_copyFrom wsX2_copyFrom) := goodIn_app (goodIn_of _ (by decide +kernel)) ggX0_remember_X2_copyFrom
theorem dX0_remember_0 : decode cX0_remember 0 = .ok (.aload_n 0, 1) := by decide +kernel
theorem dX0_remember_1 : decode cX0_remember 1 = .ok (.getfield 11, 3) := by decide +kernel
theorem dX0_remember_4 : decode cX0_remember 4 = .ok (.aload_n 0, 1) := by decide +kernel
theorem dX0_remember_5 : decode cX0_remember 5 = .ok (.getfield 17, 3) := by decide +kernel
theorem dX0_remember_8 : decode cX0_remember 8 = .ok (.aload_n 0, 1) := by decide +kernel
theorem dX0_remember_9 : decode cX0_remember 9 = .ok (.getfield 21, 3) := by decide +kernel
theorem dX0_remember_12 : decode cX0_remember 12 = .ok (.iadd, 1) := by decide +kernel
theorem dX0_remember_13 : decode cX0_remember 13 = .ok (.bipush 6, 2) := by decide +kernel
theorem dX0_remember_15 : decode cX0_remember 15 = .ok (.invokestatic 25, 3) := by decide +kernel
theorem dX0_remember_18 : decode cX0_remember 18 = .ok (.aaload, 1) := by decide +kernel
theorem dX0_remember_19 : decode cX0_remember 19 = .ok (.astore_n 2, 1) := by decide +kernel
theorem dX0_remember_20 : decode cX0_remember 20 = .ok (.aload_n 2, 1) := by decide +kernel
theorem dX0_remember_21 : decode cX0_remember 21 = .ok (.ifnonnull 4, 3) := by decide +kernel
theorem dX0_remember_24 : decode cX0_remember 24 = .ok (.return_, 1) := by decide +kernel
theorem dX0_remember_25 : decode cX0_remember 25 = .ok (.aload_n 2, 1) := by decide +kernel
theorem dX0_remember_26 : decode cX0_remember 26 = .ok (.aload_n 1, 1) := by decide +kernel
theorem dX0_remember_27 : decode cX0_remember 27 = .ok (.invokevirtual 31, 3) := by decide +kernel
theorem dX0_remember_30 : decode cX0_remember 30 = .ok (.aload_n 0, 1) := by decide +kernel
theorem dX0_remember_31 : decode cX0_remember 31 = .ok (.getfield 21, 3) := by decide +kernel
theorem dX0_remember_34 : decode cX0_remember 34 = .ok (.bipush 6, 2) := by decide +kernel
theorem dX0_remember_36 : decode cX0_remember 36 = .ok (.if_icmp .ge 16, 3) := by decide +kernel
theorem dX0_remember_39 : decode cX0_remember 39 = .ok (.aload_n 0, 1) := by decide +kernel
theorem dX0_remember_40 : decode cX0_remember 40 = .ok (.dup, 1) := by decide +kernel
theorem dX0_remember_41 : decode cX0_remember 41 = .ok (.getfield 21, 3) := by decide +kernel
theorem dX0_remember_44 : decode cX0_remember 44 = .ok (.iconst 1, 1) := by decide +kernel
theorem dX0_remember_45 : decode cX0_remember 45 = .ok (.iadd, 1) := by decide +kernel
theorem dX0_remember_46 : decode cX0_remember 46 = .ok (.putfield 21, 3) := by decide +kernel
theorem dX0_remember_49 : decode cX0_remember 49 = .ok (.goto 18, 3) := by decide +kernel
theorem dX0_remember_52 : decode cX0_remember 52 = .ok (.aload_n 0, 1) := by decide +kernel
theorem dX0_remember_53 : decode cX0_remember 53 = .ok (.aload_n 0, 1) := by decide +kernel
theorem dX0_remember_54 : decode cX0_remember 54 = .ok (.getfield 17, 3) := by decide +kernel
theorem dX0_remember_57 : decode cX0_remember 57 = .ok (.iconst 1, 1) := by decide +kernel
theorem dX0_remember_58 : decode cX0_remember 58 = .ok (.iadd, 1) := by decide +kernel
theorem dX0_remember_59 : decode cX0_remember 59 = .ok (.bipush 6, 2) := by decide +kernel
theorem dX0_remember_61 : decode cX0_remember 61 = .ok (.invokestatic 25, 3) := by decide +kernel
theorem dX0_remember_64 : decode cX0_remember 64 = .ok (.putfield 17, 3) := by decide +kernel
theorem dX0_remember_67 : decode cX0_remember 67 = .ok (.return_, 1) := by decide +kernel
set_option maxRecDepth 20000 in
theorem ggX0_takeBack_J9_floorMod_7cf53 : GoodIn wsX0_takeBack wsJ9_floorMod_7cf53 := goodIn_r _ [7] (by decide +kernel) (by decide +kernel)
set_option maxRecDepth 20000 in
theorem gX0_takeBack_J9_floorMod_7cf53 : GoodIn wsX0_takeBack (va_wsS RX0 25 yJ9_floorMod_7cf53 wsJ9_floorMod_7cf53) := goodIn_app (goodIn_of _ (by decide +kernel)) ggX0_takeBack_J9_floorMod_7cf53
set_option maxRecDepth 20000 in
theorem ggX0_takeBack_X2_copyFrom : GoodIn wsX0_takeBack wsX2_copyFrom := goodIn_r _ [12, 13, 14, 15, 16, 17, 18, 19, 20, 21, 25, 26, 27, 28, 29] (by decide +kernel) (by decide +kernel)
set_option maxRecDepth 20000 in
theorem gX0_takeBack_X2_copyFrom : GoodIn wsX0_takeBack (wsV RX0 31 RX2 yX2_copyFrom wsX2_copyFrom) := goodIn_app (goodIn_of _ (by decide +kernel)) ggX0_takeBack_X2_copyFrom
theorem dX0_takeBack_0 : decode cX0_takeBack 0 = .ok (.aload_n 0, 1) := by decide +kernel
theorem dX0_takeBack_1 : decode cX0_takeBack 1 = .ok (.getfield 21, 3) := by decide +kernel
theorem dX0_takeBack_4 : decode cX0_takeBack 4 = .ok (.ifCond .ne 4, 3) := by decide +kernel
theorem dX0_takeBack_7 : decode cX0_takeBack 7 = .ok (.return_, 1) := by decide +kernel
theorem dX0_takeBack_8 : decode cX0_takeBack 8 = .ok (.aload_n 0, 1) := by decide +kernel
theorem dX0_takeBack_9 : decode cX0_takeBack 9 = .ok (.getfield 11, 3) := by decide +kernel
theorem dX0_takeBack_12 : decode cX0_takeBack 12 = .ok (.aload_n 0, 1) := by decide +kernel
theorem dX0_takeBack_13 : decode cX0_takeBack 13 = .ok (.getfield 17, 3) := by decide +kernel
theorem dX0_takeBack_16 : decode cX0_takeBack 16 = .ok (.aload_n 0, 1) := by decide +kernel
theorem dX0_takeBack_17 : decode cX0_takeBack 17 = .ok (.getfield 21, 3) := by decide +kernel
theorem dX0_takeBack_20 : decode cX0_takeBack 20 = .ok (.iadd, 1) := by decide +kernel
theorem dX0_takeBack_21 : decode cX0_takeBack 21 = .ok (.iconst 1, 1) := by decide +kernel
theorem dX0_takeBack_22 : decode cX0_takeBack 22 = .ok (.isub, 1) := by decide +kernel
theorem dX0_takeBack_23 : decode cX0_takeBack 23 = .ok (.bipush 6, 2) := by decide +kernel
theorem dX0_takeBack_25 : decode cX0_takeBack 25 = .ok (.invokestatic 25, 3) := by decide +kernel
theorem dX0_takeBack_28 : decode cX0_takeBack 28 = .ok (.aaload, 1) := by decide +kernel
theorem dX0_takeBack_29 : decode cX0_takeBack 29 = .ok (.astore_n 2, 1) := by decide +kernel
theorem dX0_takeBack_30 : decode cX0_takeBack 30 = .ok (.aload_n 2, 1) := by decide +kernel
theorem dX0_takeBack_31 : decode cX0_takeBack 31 = .ok (.ifnonnull 4, 3) := by decide +kernel
theorem dX0_takeBack_34 : decode cX0_takeBack 34 = .ok (.return_, 1) := by decide +kernel
theorem dX0_takeBack_35 : decode cX0_takeBack 35 = .ok (.aload_n 1, 1) := by decide +kernel
theorem dX0_takeBack_36 : decode cX0_takeBack 36 = .ok (.aload_n 2, 1) := by decide +kernel
theorem dX0_takeBack_37 : decode cX0_takeBack 37 = .ok (.invokevirtual 31, 3) := by decide +kernel
theorem dX0_takeBack_40 : decode cX0_takeBack 40 = .ok (.aload_n 0, 1) := by decide +kernel
theorem dX0_takeBack_41 : decode cX0_takeBack 41 = .ok (.dup, 1) := by decide +kernel
theorem dX0_takeBack_42 : decode cX0_takeBack 42 = .ok (.getfield 21, 3) := by decide +kernel
theorem dX0_takeBack_45 : decode cX0_takeBack 45 = .ok (.iconst 1, 1) := by decide +kernel
theorem dX0_takeBack_46 : decode cX0_takeBack 46 = .ok (.isub, 1) := by decide +kernel
theorem dX0_takeBack_47 : decode cX0_takeBack 47 = .ok (.putfield 21, 3) := by decide +kernel
theorem dX0_takeBack_50 : decode cX0_takeBack 50 = .ok (.return_, 1) := by decide +kernel
theorem dX1_init_0 : decode cX1_init 0 = .ok (.aload_n 0, 1) := by decide +kernel
theorem dX1_init_1 : decode cX1_init 1 = .ok (.invokespecial 3, 3) := by decide +kernel
theorem dX1_init_4 : decode cX1_init 4 = .ok (.aload_n 0, 1) := by decide +kernel
theorem dX1_init_5 : decode cX1_init 5 = .ok (.bipush 48, 2) := by decide +kernel
theorem dX1_init_7 : decode cX1_init 7 = .ok (.newarray .int, 2) := by decide +kernel
theorem dX1_init_9 : decode cX1_init 9 = .ok (.putfield 9, 3) := by decide +kernel
theorem dX1_init_12 : decode cX1_init 12 = .ok (.aload_n 0, 1) := by decide +kernel
theorem dX1_init_13 : decode cX1_init 13 = .ok (.iconst 0, 1) := by decide +kernel
theorem dX1_init_14 : decode cX1_init 14 = .ok (.putfield 15, 3) := by decide +kernel
theorem dX1_init_17 : decode cX1_init 17 = .ok (.return_, 1) := by decide +kernel
theorem dX1_append_0 : decode cX1_append 0 = .ok (.iload_n 3, 1) := by decide +kernel
theorem dX1_append_1 : decode cX1_append 1 = .ok (.iconst 1, 1) := by decide +kernel
theorem dX1_append_2 : decode cX1_append 2 = .ok (.isub, 1) := by decide +kernel
theorem dX1_append_3 : decode cX1_append 3 = .ok (.istore 4, 2) := by decide +kernel
theorem dX1_append_5 : decode cX1_append 5 = .ok (.iload 4, 2) := by decide +kernel
theorem dX1_append_7 : decode cX1_append 7 = .ok (.ifCond .lt 49, 3) := by decide +kernel
theorem dX1_append_10 : decode cX1_append 10 = .ok (.aload_n 0, 1) := by decide +kernel
theorem dX1_append_11 : decode cX1_append 11 = .ok (.getfield 15, 3) := by decide +kernel
theorem dX1_append_14 : decode cX1_append 14 = .ok (.bipush 48, 2) := by decide +kernel
theorem dX1_append_16 : decode cX1_append 16 = .ok (.if_icmp .ge 40, 3) := by decide +kernel
theorem dX1_append_19 : decode cX1_append 19 = .ok (.aload_n 0, 1) := by decide +kernel
theorem dX1_append_20 : decode cX1_append 20 = .ok (.getfield 9, 3) := by decide +kernel
theorem dX1_append_23 : decode cX1_append 23 = .ok (.aload_n 0, 1) := by decide +kernel
theorem dX1_append_24 : decode cX1_append 24 = .ok (.getfield 15, 3) := by decide +kernel
theorem dX1_append_27 : decode cX1_append 27 = .ok (.lload_n 1, 1) := by decide +kernel
theorem dX1_append_28 : decode cX1_append 28 = .ok (.bipush 8, 2) := by decide +kernel
theorem dX1_append_30 : decode cX1_append 30 = .ok (.iload 4, 2) := by decide +kernel
theorem dX1_append_32 : decode cX1_append 32 = .ok (.imul, 1) := by decide +kernel
theorem dX1_append_33 : decode cX1_append 33 = .ok (.lushr, 1) := by decide +kernel
theorem dX1_append_34 : decode cX1_append 34 = .ok (.ldc2_w 19, 3) := by decide +kernel
theorem dX1_append_37 : decode cX1_append 37 = .ok (.land, 1) := by decide +kernel
theorem dX1_append_38 : decode cX1_append 38 = .ok (.l2i, 1) := by decide +kernel
theorem dX1_append_39 : decode cX1_append 39 = .ok (.iastore, 1) := by decide +kernel
theorem dX1_append_40 : decode cX1_append 40 = .ok (.aload_n 0, 1) := by decide +kernel
theorem dX1_append_41 : decode cX1_append 41 = .ok (.dup, 1) := by decide +kernel
theorem dX1_append_42 : decode cX1_append 42 = .ok (.getfield 15, 3) := by decide +kernel
theorem dX1_append_45 : decode cX1_append 45 = .ok (.iconst 1, 1) := by decide +kernel
theorem dX1_append_46 : decode cX1_append 46 = .ok (.iadd, 1) := by decide +kernel
theorem dX1_append_47 : decode cX1_append 47 = .ok (.putfield 15, 3) := by decide +kernel
theorem dX1_append_50 : decode cX1_append 50 = .ok (.iinc 4 (-1), 3) := by decide +kernel
theorem dX1_append_53 : decode cX1_append 53 = .ok (.goto (-48), 3) := by decide +kernel
theorem dX1_append_56 : decode cX1_append 56 = .ok (.return_, 1) := by decide +kernel
set_option maxRecDepth 20000 in
theorem ggX1_firstFault_X1_partOf : GoodIn wsX1_firstFault wsX1_partOf := goodIn_r _ [6] (by decide +kernel) (by decide +kernel)
set_option maxRecDepth 20000 in
theorem gX1_firstFault_X1_partOf : GoodIn wsX1_firstFault (va_wsS RX1 21 yX1_partOf wsX1_partOf) := goodIn_app (goodIn_of _ (by decide +kernel)) ggX1_firstFault_X1_partOf
theorem dX1_firstFault_0 : decode cX1_firstFault 0 = .ok (.iconst 0, 1) := by decide +kernel
theorem dX1_firstFault_1 : decode cX1_firstFault 1 = .ok (.istore_n 1, 1) := by decide +kernel
theorem dX1_firstFault_2 : decode cX1_firstFault 2 = .ok (.iconst 0, 1) := by decide +kernel
theorem dX1_firstFault_3 : decode cX1_firstFault 3 = .ok (.istore_n 2, 1) := by decide +kernel
theorem dX1_firstFault_4 : decode cX1_firstFault 4 = .ok (.iconst 0, 1) := by decide +kernel
theorem dX1_firstFault_5 : decode cX1_firstFault 5 = .ok (.istore_n 3, 1) := by decide +kernel
theorem dX1_firstFault_6 : decode cX1_firstFault 6 = .ok (.iload_n 3, 1) := by decide +kernel
theorem dX1_firstFault_7 : decode cX1_firstFault 7 = .ok (.aload_n 0, 1) := by decide +kernel
theorem dX1_firstFault_8 : decode cX1_firstFault 8 = .ok (.getfield 15, 3) := by decide +kernel
theorem dX1_firstFault_11 : decode cX1_firstFault 11 = .ok (.if_icmp .ge 79, 3) := by decide +kernel
theorem dX1_firstFault_14 : decode cX1_firstFault 14 = .ok (.iload_n 3, 1) := by decide +kernel
theorem dX1_firstFault_15 : decode cX1_firstFault 15 = .ok (.bipush 48, 2) := by decide +kernel
theorem dX1_firstFault_17 : decode cX1_firstFault 17 = .ok (.if_icmp .ge 73, 3) := by decide +kernel
theorem dX1_firstFault_20 : decode cX1_firstFault 20 = .ok (.iload_n 1, 1) := by decide +kernel
theorem dX1_firstFault_21 : decode cX1_firstFault 21 = .ok (.bipush 8, 2) := by decide +kernel
theorem dX1_firstFault_23 : decode cX1_firstFault 23 = .ok (.if_icmp .ne 5, 3) := by decide +kernel
theorem dX1_firstFault_26 : decode cX1_firstFault 26 = .ok (.iload_n 3, 1) := by decide +kernel
theorem dX1_firstFault_27 : decode cX1_firstFault 27 = .ok (.ireturn, 1) := by decide +kernel
theorem dX1_firstFault_28 : decode cX1_firstFault 28 = .ok (.aload_n 0, 1) := by decide +kernel
theorem dX1_firstFault_29 : decode cX1_firstFault 29 = .ok (.getfield 9, 3) := by decide +kernel
theorem dX1_firstFault_32 : decode cX1_firstFault 32 = .ok (.iload_n 3, 1) := by decide +kernel
theorem dX1_firstFault_33 : decode cX1_firstFault 33 = .ok (.iaload, 1) := by decide +kernel
theorem dX1_firstFault_34 : decode cX1_firstFault 34 = .ok (.invokestatic 21, 3) := by decide +kernel
theorem dX1_firstFault_37 : decode cX1_firstFault 37 = .ok (.ifCond .lt 9, 3) := by decide +kernel
theorem dX1_firstFault_40 : decode cX1_firstFault 40 = .ok (.iinc 2 1, 3) := by decide +kernel
theorem dX1_firstFault_43 : decode cX1_firstFault 43 = .ok (.goto 20, 3) := by decide +kernel
theorem dX1_firstFault_46 : decode cX1_firstFault 46 = .ok (.aload_n 0, 1) := by decide +kernel
theorem dX1_firstFault_47 : decode cX1_firstFault 47 = .ok (.getfield 9, 3) := by decide +kernel
theorem dX1_firstFault_50 : decode cX1_firstFault 50 = .ok (.iload_n 3, 1) := by decide +kernel
theorem dX1_firstFault_51 : decode cX1_firstFault 51 = .ok (.iaload, 1) := by decide +kernel
theorem dX1_firstFault_52 : decode cX1_firstFault 52 = .ok (.bipush 46, 2) := by decide +kernel
theorem dX1_firstFault_54 : decode cX1_firstFault 54 = .ok (.if_icmp .ne 7, 3) := by decide +kernel
theorem dX1_firstFault_57 : decode cX1_firstFault 57 = .ok (.iload_n 2, 1) := by decide +kernel
theorem dX1_firstFault_58 : decode cX1_firstFault 58 = .ok (.ifCond .le 5, 3) := by decide +kernel
theorem dX1_firstFault_61 : decode cX1_firstFault 61 = .ok (.iload_n 3, 1) := by decide +kernel
theorem dX1_firstFault_62 : decode cX1_firstFault 62 = .ok (.ireturn, 1) := by decide +kernel
theorem dX1_firstFault_63 : decode cX1_firstFault 63 = .ok (.iload_n 2, 1) := by decide +kernel
theorem dX1_firstFault_64 : decode cX1_firstFault 64 = .ok (.iconst 3, 1) := by decide +kernel
theorem dX1_firstFault_65 : decode cX1_firstFault 65 = .ok (.if_icmp .eq 14, 3) := by decide +kernel
theorem dX1_firstFault_68 : decode cX1_firstFault 68 = .ok (.aload_n 0, 1) := by decide +kernel
theorem dX1_firstFault_69 : decode cX1_firstFault 69 = .ok (.getfield 9, 3) := by decide +kernel
theorem dX1_firstFault_72 : decode cX1_firstFault 72 = .ok (.iload_n 3, 1) := by decide +kernel
theorem dX1_firstFault_73 : decode cX1_firstFault 73 = .ok (.iaload, 1) := by decide +kernel
theorem dX1_firstFault_74 : decode cX1_firstFault 74 = .ok (.bipush 46, 2) := by decide +kernel
theorem dX1_firstFault_76 : decode cX1_firstFault 76 = .ok (.if_icmp .ne 8, 3) := by decide +kernel
theorem dX1_firstFault_79 : decode cX1_firstFault 79 = .ok (.iconst 0, 1) := by decide +kernel
theorem dX1_firstFault_80 : decode cX1_firstFault 80 = .ok (.istore_n 2, 1) := by decide +kernel
theorem dX1_firstFault_81 : decode cX1_firstFault 81 = .ok (.iinc 1 1, 3) := by decide +kernel
theorem dX1_firstFault_84 : decode cX1_firstFault 84 = .ok (.iinc 3 1, 3) := by decide +kernel
theorem dX1_firstFault_87 : decode cX1_firstFault 87 = .ok (.goto (-81), 3) := by decide +kernel
theorem dX1_firstFault_90 : decode cX1_firstFault 90 = .ok (.iload_n 1, 1) := by decide +kernel
theorem dX1_firstFault_91 : decode cX1_firstFault 91 = .ok (.ifCond .eq 7, 3) := by decide +kernel
theorem dX1_firstFault_94 : decode cX1_firstFault 94 = .ok (.iload_n 2, 1) := by decide +kernel
theorem dX1_firstFault_95 : decode cX1_firstFault 95 = .ok (.ifCond .le 10, 3) := by decide +kernel
theorem dX1_firstFault_98 : decode cX1_firstFault 98 = .ok (.aload_n 0, 1) := by decide +kernel
theorem dX1_firstFault_99 : decode cX1_firstFault 99 = .ok (.getfield 15, 3) := by decide +kernel
theorem dX1_firstFault_102 : decode cX1_firstFault 102 = .ok (.goto 5, 3) := by decide +kernel
theorem dX1_firstFault_105 : decode cX1_firstFault 105 = .ok (.bipush (-6), 2) := by decide +kernel
theorem dX1_firstFault_107 : decode cX1_firstFault 107 = .ok (.ireturn, 1) := by decide +kernel
set_option maxRecDepth 20000 in
theorem ggX1_paintOn_X1_partOf : GoodIn wsX1_paintOn wsX1_partOf := goodIn_r _ [6] (by decide +kernel) (by decide +kernel)
set_option maxRecDepth 20000 in
theorem gX1_paintOn_X1_partOf : GoodIn wsX1_paintOn (va_wsS RX1 21 yX1_partOf wsX1_partOf) := goodIn_app (goodIn_of _ (by decide +kernel)) ggX1_paintOn_X1_partOf
set_option maxRecDepth 20000 in
theorem ggX1_paintOn_X4_isPixel : GoodIn wsX1_paintOn wsX4_isPixel := goodIn_r _ [9] (by decide +kernel) (by decide +kernel)
set_option maxRecDepth 20000 in
theorem gX1_paintOn_X4_isPixel_n25 : GoodIn wsX1_paintOn (wsX4_isPixel) := ggX1_paintOn_X4_isPixel
theorem dX1_paintOn_0 : decode cX1_paintOn 0 = .ok (.iload_n 2, 1) := by decide +kernel
theorem dX1_paintOn_1 : decode cX1_paintOn 1 = .ok (.istore_n 3, 1) := by decide +kernel
theorem dX1_paintOn_2 : decode cX1_paintOn 2 = .ok (.iconst 0, 1) := by decide +kernel
theorem dX1_paintOn_3 : decode cX1_paintOn 3 = .ok (.istore 4, 2) := by decide +kernel
theorem dX1_paintOn_5 : decode cX1_paintOn 5 = .ok (.iconst 0, 1) := by decide +kernel
theorem dX1_paintOn_6 : decode cX1_paintOn 6 = .ok (.istore 5, 2) := by decide +kernel
theorem dX1_paintOn_8 : decode cX1_paintOn 8 = .ok (.iconst 0, 1) := by decide +kernel
theorem dX1_paintOn_9 : decode cX1_paintOn 9 = .ok (.istore 6, 2) := by decide +kernel
theorem dX1_paintOn_11 : decode cX1_paintOn 11 = .ok (.iconst 0, 1) := by decide +kernel
theorem dX1_paintOn_12 : decode cX1_paintOn 12 = .ok (.istore 7, 2) := by decide +kernel
theorem dX1_paintOn_14 : decode cX1_paintOn 14 = .ok (.iload 7, 2) := by decide +kernel
theorem dX1_paintOn_16 : decode cX1_paintOn 16 = .ok (.aload_n 0, 1) := by decide +kernel
theorem dX1_paintOn_17 : decode cX1_paintOn 17 = .ok (.getfield 15, 3) := by decide +kernel
theorem dX1_paintOn_20 : decode cX1_paintOn 20 = .ok (.if_icmp .ge 85, 3) := by decide +kernel
theorem dX1_paintOn_23 : decode cX1_paintOn 23 = .ok (.iload 7, 2) := by decide +kernel
theorem dX1_paintOn_25 : decode cX1_paintOn 25 = .ok (.bipush 48, 2) := by decide +kernel
theorem dX1_paintOn_27 : decode cX1_paintOn 27 = .ok (.if_icmp .ge 78, 3) := by decide +kernel
theorem dX1_paintOn_30 : decode cX1_paintOn 30 = .ok (.aload_n 0, 1) := by decide +kernel
theorem dX1_paintOn_31 : decode cX1_paintOn 31 = .ok (.getfield 9, 3) := by decide +kernel
theorem dX1_paintOn_34 : decode cX1_paintOn 34 = .ok (.iload 7, 2) := by decide +kernel
theorem dX1_paintOn_36 : decode cX1_paintOn 36 = .ok (.iaload, 1) := by decide +kernel
theorem dX1_paintOn_37 : decode cX1_paintOn 37 = .ok (.bipush 46, 2) := by decide +kernel
theorem dX1_paintOn_39 : decode cX1_paintOn 39 = .ok (.if_icmp .ne 9, 3) := by decide +kernel
theorem dX1_paintOn_42 : decode cX1_paintOn 42 = .ok (.iinc 3 1, 3) := by decide +kernel
theorem dX1_paintOn_45 : decode cX1_paintOn 45 = .ok (.goto 54, 3) := by decide +kernel
theorem dX1_paintOn_48 : decode cX1_paintOn 48 = .ok (.bipush 16, 2) := by decide +kernel
theorem dX1_paintOn_50 : decode cX1_paintOn 50 = .ok (.iload 6, 2) := by decide +kernel
theorem dX1_paintOn_52 : decode cX1_paintOn 52 = .ok (.imul, 1) := by decide +kernel
theorem dX1_paintOn_53 : decode cX1_paintOn 53 = .ok (.aload_n 0, 1) := by decide +kernel
theorem dX1_paintOn_54 : decode cX1_paintOn 54 = .ok (.getfield 9, 3) := by decide +kernel
theorem dX1_paintOn_57 : decode cX1_paintOn 57 = .ok (.iload 7, 2) := by decide +kernel
theorem dX1_paintOn_59 : decode cX1_paintOn 59 = .ok (.iaload, 1) := by decide +kernel
theorem dX1_paintOn_60 : decode cX1_paintOn 60 = .ok (.invokestatic 21, 3) := by decide +kernel
theorem dX1_paintOn_63 : decode cX1_paintOn 63 = .ok (.iadd, 1) := by decide +kernel
theorem dX1_paintOn_64 : decode cX1_paintOn 64 = .ok (.istore 6, 2) := by decide +kernel
theorem dX1_paintOn_66 : decode cX1_paintOn 66 = .ok (.iinc 5 1, 3) := by decide +kernel
theorem dX1_paintOn_69 : decode cX1_paintOn 69 = .ok (.iload 5, 2) := by decide +kernel
theorem dX1_paintOn_71 : decode cX1_paintOn 71 = .ok (.iconst 3, 1) := by decide +kernel
theorem dX1_paintOn_72 : decode cX1_paintOn 72 = .ok (.if_icmp .ne 27, 3) := by decide +kernel
theorem dX1_paintOn_75 : decode cX1_paintOn 75 = .ok (.iload_n 3, 1) := by decide +kernel
theorem dX1_paintOn_76 : decode cX1_paintOn 76 = .ok (.invokestatic 25, 3) := by decide +kernel
theorem dX1_paintOn_79 : decode cX1_paintOn 79 = .ok (.ifCond .eq 20, 3) := by decide +kernel
theorem dX1_paintOn_82 : decode cX1_paintOn 82 = .ok (.aload_n 1, 1) := by decide +kernel
theorem dX1_paintOn_83 : decode cX1_paintOn 83 = .ok (.iload_n 3, 1) := by decide +kernel
theorem dX1_paintOn_84 : decode cX1_paintOn 84 = .ok (.iload 6, 2) := by decide +kernel
theorem dX1_paintOn_86 : decode cX1_paintOn 86 = .ok (.iastore, 1) := by decide +kernel
theorem dX1_paintOn_87 : decode cX1_paintOn 87 = .ok (.iinc 3 1, 3) := by decide +kernel
theorem dX1_paintOn_90 : decode cX1_paintOn 90 = .ok (.iinc 4 1, 3) := by decide +kernel
theorem dX1_paintOn_93 : decode cX1_paintOn 93 = .ok (.iconst 0, 1) := by decide +kernel
theorem dX1_paintOn_94 : decode cX1_paintOn 94 = .ok (.istore 5, 2) := by decide +kernel
theorem dX1_paintOn_96 : decode cX1_paintOn 96 = .ok (.iconst 0, 1) := by decide +kernel
theorem dX1_paintOn_97 : decode cX1_paintOn 97 = .ok (.istore 6, 2) := by decide +kernel
theorem dX1_paintOn_99 : decode cX1_paintOn 99 = .ok (.iinc 7 1, 3) := by decide +kernel
theorem dX1_paintOn_102 : decode cX1_paintOn 102 = .ok (.goto (-88), 3) := by decide +kernel
theorem dX1_paintOn_105 : decode cX1_paintOn 105 = .ok (.iload 4, 2) := by decide +kernel
theorem dX1_paintOn_107 : decode cX1_paintOn 107 = .ok (.ireturn, 1) := by decide +kernel
theorem dX1_partOf_0 : decode cX1_partOf 0 = .ok (.iload_n 0, 1) := by decide +kernel
theorem dX1_partOf_1 : decode cX1_partOf 1 = .ok (.bipush 48, 2) := by decide +kernel
theorem dX1_partOf_3 : decode cX1_partOf 3 = .ok (.if_icmp .lt 14, 3) := by decide +kernel
theorem dX1_partOf_6 : decode cX1_partOf 6 = .ok (.iload_n 0, 1) := by decide +kernel
theorem dX1_partOf_7 : decode cX1_partOf 7 = .ok (.bipush 57, 2) := by decide +kernel
theorem dX1_partOf_9 : decode cX1_partOf 9 = .ok (.if_icmp .gt 8, 3) := by decide +kernel
theorem dX1_partOf_12 : decode cX1_partOf 12 = .ok (.iload_n 0, 1) := by decide +kernel
theorem dX1_partOf_13 : decode cX1_partOf 13 = .ok (.bipush 48, 2) := by decide +kernel
theorem dX1_partOf_15 : decode cX1_partOf 15 = .ok (.isub, 1) := by decide +kernel
theorem dX1_partOf_16 : decode cX1_partOf 16 = .ok (.ireturn, 1) := by decide +kernel
theorem dX1_partOf_17 : decode cX1_partOf 17 = .ok (.iload_n 0, 1) := by decide +kernel
theorem dX1_partOf_18 : decode cX1_partOf 18 = .ok (.bipush 97, 2) := by decide +kernel
theorem dX1_partOf_20 : decode cX1_partOf 20 = .ok (.if_icmp .lt 19, 3) := by decide +kernel
theorem dX1_partOf_23 : decode cX1_partOf 23 = .ok (.iload_n 0, 1) := by decide +kernel
theorem dX1_partOf_24 : decode cX1_partOf 24 = .ok (.bipush 102, 2) := by decide +kernel
theorem dX1_partOf_26 : decode cX1_partOf 26 = .ok (.if_icmp .gt 13, 3) := by decide +kernel
theorem dX1_partOf_29 : decode cX1_partOf 29 = .ok (.iload_n 0, 1) := by decide +kernel
theorem dX1_partOf_30 : decode cX1_partOf 30 = .ok (.bipush 97, 2) := by decide +kernel
theorem dX1_partOf_32 : decode cX1_partOf 32 = .ok (.isub, 1) := by decide +kernel
theorem dX1_partOf_33 : decode cX1_partOf 33 = .ok (.bipush 10, 2) := by decide +kernel
theorem dX1_partOf_35 : decode cX1_partOf 35 = .ok (.iadd, 1) := by decide +kernel
theorem dX1_partOf_36 : decode cX1_partOf 36 = .ok (.goto 4, 3) := by decide +kernel
theorem dX1_partOf_39 : decode cX1_partOf 39 = .ok (.iconst (-1), 1) := by decide +kernel
theorem dX1_partOf_40 : decode cX1_partOf 40 = .ok (.ireturn, 1) := by decide +kernel
theorem dX2_init_0 : decode cX2_init 0 = .ok (.aload_n 0, 1) := by decide +kernel
theorem dX2_init_1 : decode cX2_init 1 = .ok (.invokespecial 3, 3) := by decide +kernel
theorem dX2_init_4 : decode cX2_init 4 = .ok (.aload_n 0, 1) := by decide +kernel
theorem dX2_init_5 : decode cX2_init 5 = .ok (.bipush 6, 2) := by decide +kernel
theorem dX2_init_7 : decode cX2_init 7 = .ok (.newarray .int, 2) := by decide +kernel
theorem dX2_init_9 : decode cX2_init 9 = .ok (.putfield 9, 3) := by decide +kernel
theorem dX2_init_12 : decode cX2_init 12 = .ok (.aload_n 0, 1) := by decide +kernel
theorem dX2_init_13 : decode cX2_init 13 = .ok (.bipush 48, 2) := by decide +kernel
theorem dX2_init_15 : decode cX2_init 15 = .ok (.newarray .int, 2) := by decide +kernel
theorem dX2_init_17 : decode cX2_init 17 = .ok (.putfield 15, 3) := by decide +kernel
theorem dX2_init_20 : decode cX2_init 20 = .ok (.aload_n 0, 1) := by decide +kernel
theorem dX2_init_21 : decode cX2_init 21 = .ok (.bipush 48, 2) := by decide +kernel
theorem dX2_init_23 : decode cX2_init 23 = .ok (.newarray .int, 2) := by decide +kernel
theorem dX2_init_25 : decode cX2_init 25 = .ok (.putfield 18, 3) := by decide +kernel
theorem dX2_init_28 : decode cX2_init 28 = .ok (.aload_n 0, 1) := by decide +kernel
theorem dX2_init_29 : decode cX2_init 29 = .ok (.bipush 48, 2) := by decide +kernel
theorem dX2_init_31 : decode cX2_init 31 = .ok (.newarray .boolean, 2) := by decide +kernel
theorem dX2_init_33 : decode cX2_init 33 = .ok (.putfield 21, 3) := by decide +kernel
theorem dX2_init_36 : decode cX2_init 36 = .ok (.aload_n 0, 1) := by decide +kernel
theorem dX2_init_37 : decode cX2_init 37 = .ok (.sipush 240, 3) := by decide +kernel
theorem dX2_init_40 : decode cX2_init 40 = .ok (.putfield 25, 3) := by decide +kernel
theorem dX2_init_43 : decode cX2_init 43 = .ok (.getstatic 29, 3) := by decide +kernel
theorem dX2_init_46 : decode cX2_init 46 = .ok (.iconst 0, 1) := by decide +kernel
theorem dX2_init_47 : decode cX2_init 47 = .ok (.aload_n 0, 1) := by decide +kernel
theorem dX2_init_48 : decode cX2_init 48 = .ok (.getfield 9, 3) := by decide +kernel
theorem dX2_init_51 : decode cX2_init 51 = .ok (.iconst 0, 1) := by decide +kernel
theorem dX2_init_52 : decode cX2_init 52 = .ok (.bipush 6, 2) := by decide +kernel
theorem dX2_init_54 : decode cX2_init 54 = .ok (.invokestatic 32, 3) := by decide +kernel
theorem dX2_init_57 : decode cX2_init 57 = .ok (.return_, 1) := by decide +kernel
theorem dX2_copyFrom_0 : decode cX2_copyFrom 0 = .ok (.aload_n 1, 1) := by decide +kernel
theorem dX2_copyFrom_1 : decode cX2_copyFrom 1 = .ok (.getfield 9, 3) := by decide +kernel
theorem dX2_copyFrom_4 : decode cX2_copyFrom 4 = .ok (.iconst 0, 1) := by decide +kernel
theorem dX2_copyFrom_5 : decode cX2_copyFrom 5 = .ok (.aload_n 0, 1) := by decide +kernel
theorem dX2_copyFrom_6 : decode cX2_copyFrom 6 = .ok (.getfield 9, 3) := by decide +kernel
theorem dX2_copyFrom_9 : decode cX2_copyFrom 9 = .ok (.iconst 0, 1) := by decide +kernel
theorem dX2_copyFrom_10 : decode cX2_copyFrom 10 = .ok (.bipush 6, 2) := by decide +kernel
theorem dX2_copyFrom_12 : decode cX2_copyFrom 12 = .ok (.invokestatic 32, 3) := by decide +kernel
theorem dX2_copyFrom_15 : decode cX2_copyFrom 15 = .ok (.aload_n 1, 1) := by decide +kernel
theorem dX2_copyFrom_16 : decode cX2_copyFrom 16 = .ok (.getfield 15, 3) := by decide +kernel
theorem dX2_copyFrom_19 : decode cX2_copyFrom 19 = .ok (.iconst 0, 1) := by decide +kernel
theorem dX2_copyFrom_20 : decode cX2_copyFrom 20 = .ok (.aload_n 0, 1) := by decide +kernel
theorem dX2_copyFrom_21 : decode cX2_copyFrom 21 = .ok (.getfield 15, 3) := by decide +kernel
theorem dX2_copyFrom_24 : decode cX2_copyFrom 24 = .ok (.iconst 0, 1) := by decide +kernel
theorem dX2_copyFrom_25 : decode cX2_copyFrom 25 = .ok (.bipush 48, 2) := by decide +kernel
theorem dX2_copyFrom_27 : decode cX2_copyFrom 27 = .ok (.invokestatic 32, 3) := by decide +kernel
theorem dX2_copyFrom_30 : decode cX2_copyFrom 30 = .ok (.aload_n 1, 1) := by decide +kernel
theorem dX2_copyFrom_31 : decode cX2_copyFrom 31 = .ok (.getfield 18, 3) := by decide +kernel
theorem dX2_copyFrom_34 : decode cX2_copyFrom 34 = .ok (.iconst 0, 1) := by decide +kernel
theorem dX2_copyFrom_35 : decode cX2_copyFrom 35 = .ok (.aload_n 0, 1) := by decide +kernel
theorem dX2_copyFrom_36 : decode cX2_copyFrom 36 = .ok (.getfield 18, 3) := by decide +kernel
theorem dX2_copyFrom_39 : decode cX2_copyFrom 39 = .ok (.iconst 0, 1) := by decide +kernel
theorem dX2_copyFrom_40 : decode cX2_copyFrom 40 = .ok (.bipush 48, 2) := by decide +kernel
theorem dX2_copyFrom_42 : decode cX2_copyFrom 42 = .ok (.invokestatic 32, 3) := by decide +kernel
theorem dX2_copyFrom_45 : decode cX2_copyFrom 45 = .ok (.iconst 0, 1) := by decide +kernel
theorem dX2_copyFrom_46 : decode cX2_copyFrom 46 = .ok (.istore_n 2, 1) := by decide +kernel
theorem dX2_copyFrom_47 : decode cX2_copyFrom 47 = .ok (.iload_n 2, 1) := by decide +kernel
theorem dX2_copyFrom_48 : decode cX2_copyFrom 48 = .ok (.bipush 48, 2) := by decide +kernel
theorem dX2_copyFrom_50 : decode cX2_copyFrom 50 = .ok (.if_icmp .ge 21, 3) := by decide +kernel
theorem dX2_copyFrom_53 : decode cX2_copyFrom 53 = .ok (.aload_n 0, 1) := by decide +kernel
theorem dX2_copyFrom_54 : decode cX2_copyFrom 54 = .ok (.getfield 21, 3) := by decide +kernel
theorem dX2_copyFrom_57 : decode cX2_copyFrom 57 = .ok (.iload_n 2, 1) := by decide +kernel
theorem dX2_copyFrom_58 : decode cX2_copyFrom 58 = .ok (.aload_n 1, 1) := by decide +kernel
theorem dX2_copyFrom_59 : decode cX2_copyFrom 59 = .ok (.getfield 21, 3) := by decide +kernel
theorem dX2_copyFrom_62 : decode cX2_copyFrom 62 = .ok (.iload_n 2, 1) := by decide +kernel
theorem dX2_copyFrom_63 : decode cX2_copyFrom 63 = .ok (.baload, 1) := by decide +kernel
theorem dX2_copyFrom_64 : decode cX2_copyFrom 64 = .ok (.bastore, 1) := by decide +kernel
theorem dX2_copyFrom_65 : decode cX2_copyFrom 65 = .ok (.iinc 2 1, 3) := by decide +kernel
theorem dX2_copyFrom_68 : decode cX2_copyFrom 68 = .ok (.goto (-21), 3) := by decide +kernel
theorem dX2_copyFrom_71 : decode cX2_copyFrom 71 = .ok (.aload_n 0, 1) := by decide +kernel
theorem dX2_copyFrom_72 : decode cX2_copyFrom 72 = .ok (.aload_n 1, 1) := by decide +kernel
theorem dX2_copyFrom_73 : decode cX2_copyFrom 73 = .ok (.getfield 25, 3) := by decide +kernel
theorem dX2_copyFrom_76 : decode cX2_copyFrom 76 = .ok (.putfield 25, 3) := by decide +kernel
theorem dX2_copyFrom_79 : decode cX2_copyFrom 79 = .ok (.return_, 1) := by decide +kernel
set_option maxRecDepth 20000 in
theorem ggX2_changeSetting_X4_isSetting : GoodIn wsX2_changeSetting wsX4_isSetting := goodIn_r _ [4] (by decide +kernel) (by decide +kernel)
set_option maxRecDepth 20000 in
theorem gX2_changeSetting_X4_isSetting_n38 : GoodIn wsX2_changeSetting (wsX4_isSetting) := ggX2_changeSetting_X4_isSetting
theorem dX2_changeSetting_0 : decode cX2_changeSetting 0 = .ok (.iload_n 1, 1) := by decide +kernel
theorem dX2_changeSetting_1 : decode cX2_changeSetting 1 = .ok (.invokestatic 38, 3) := by decide +kernel
theorem dX2_changeSetting_4 : decode cX2_changeSetting 4 = .ok (.ifCond .ne 6, 3) := by decide +kernel
theorem dX2_changeSetting_7 : decode cX2_changeSetting 7 = .ok (.bipush (-2), 2) := by decide +kernel
theorem dX2_changeSetting_9 : decode cX2_changeSetting 9 = .ok (.ireturn, 1) := by decide +kernel
theorem dX2_changeSetting_10 : decode cX2_changeSetting 10 = .ok (.aload_n 0, 1) := by decide +kernel
theorem dX2_changeSetting_11 : decode cX2_changeSetting 11 = .ok (.getfield 9, 3) := by decide +kernel
theorem dX2_changeSetting_14 : decode cX2_changeSetting 14 = .ok (.iload_n 1, 1) := by decide +kernel
theorem dX2_changeSetting_15 : decode cX2_changeSetting 15 = .ok (.iaload, 1) := by decide +kernel
theorem dX2_changeSetting_16 : decode cX2_changeSetting 16 = .ok (.istore_n 3, 1) := by decide +kernel
theorem dX2_changeSetting_17 : decode cX2_changeSetting 17 = .ok (.aload_n 0, 1) := by decide +kernel
theorem dX2_changeSetting_18 : decode cX2_changeSetting 18 = .ok (.getfield 9, 3) := by decide +kernel
theorem dX2_changeSetting_21 : decode cX2_changeSetting 21 = .ok (.iload_n 1, 1) := by decide +kernel
theorem dX2_changeSetting_22 : decode cX2_changeSetting 22 = .ok (.iload_n 2, 1) := by decide +kernel
theorem dX2_changeSetting_23 : decode cX2_changeSetting 23 = .ok (.iastore, 1) := by decide +kernel
theorem dX2_changeSetting_24 : decode cX2_changeSetting 24 = .ok (.iload_n 3, 1) := by decide +kernel
theorem dX2_changeSetting_25 : decode cX2_changeSetting 25 = .ok (.ireturn, 1) := by decide +kernel
theorem dX2_picture_0 : decode cX2_picture 0 = .ok (.iload_n 1, 1) := by decide +kernel
theorem dX2_picture_1 : decode cX2_picture 1 = .ok (.ifCond .eq 10, 3) := by decide +kernel
theorem dX2_picture_4 : decode cX2_picture 4 = .ok (.aload_n 0, 1) := by decide +kernel
theorem dX2_picture_5 : decode cX2_picture 5 = .ok (.getfield 15, 3) := by decide +kernel
theorem dX2_picture_8 : decode cX2_picture 8 = .ok (.goto 7, 3) := by decide +kernel
theorem dX2_picture_11 : decode cX2_picture 11 = .ok (.aload_n 0, 1) := by decide +kernel
theorem dX2_picture_12 : decode cX2_picture 12 = .ok (.getfield 18, 3) := by decide +kernel
theorem dX2_picture_15 : decode cX2_picture 15 = .ok (.areturn, 1) := by decide +kernel
set_option maxRecDepth 20000 in
theorem ggX2_distanceOf_X4_isPixel : GoodIn wsX2_distanceOf wsX4_isPixel := goodIn_r _ [5] (by decide +kernel) (by decide +kernel)
set_option maxRecDepth 20000 in
theorem gX2_distanceOf_X4_isPixel_n42 : GoodIn wsX2_distanceOf (wsX4_isPixel) := ggX2_distanceOf_X4_isPixel
set_option maxRecDepth 20000 in
theorem ggX2_distanceOf_X4_distance : GoodIn wsX2_distanceOf wsX4_distance := goodIn_r _ [7, 8, 9, 10, 11, 12, 13, 4, 14, 15, 16, 17] (by decide +kernel) (by decide +kernel)
set_option maxRecDepth 20000 in
theorem gX2_distanceOf_X4_distance_n45 : GoodIn wsX2_distanceOf (wsX4_distance) := ggX2_distanceOf_X4_distance
theorem dX2_distanceOf_0 : decode cX2_distanceOf 0 = .ok (.iload_n 1, 1) := by decide +kernel
theorem dX2_distanceOf_1 : decode cX2_distanceOf 1 = .ok (.invokestatic 42, 3) := by decide +kernel
theorem dX2_distanceOf_4 : decode cX2_distanceOf 4 = .ok (.ifCond .eq 19, 3) := by decide +kernel
theorem dX2_distanceOf_7 : decode cX2_distanceOf 7 = .ok (.aload_n 0, 1) := by decide +kernel
theorem dX2_distanceOf_8 : decode cX2_distanceOf 8 = .ok (.getfield 15, 3) := by decide +kernel
theorem dX2_distanceOf_11 : decode cX2_distanceOf 11 = .ok (.iload_n 1, 1) := by decide +kernel
theorem dX2_distanceOf_12 : decode cX2_distanceOf 12 = .ok (.iaload, 1) := by decide +kernel
theorem dX2_distanceOf_13 : decode cX2_distanceOf 13 = .ok (.aload_n 0, 1) := by decide +kernel
theorem dX2_distanceOf_14 : decode cX2_distanceOf 14 = .ok (.getfield 25, 3) := by decide +kernel
theorem dX2_distanceOf_17 : decode cX2_distanceOf 17 = .ok (.invokestatic 45, 3) := by decide +kernel
theorem dX2_distanceOf_20 : decode cX2_distanceOf 20 = .ok (.goto 4, 3) := by decide +kernel
theorem dX2_distanceOf_23 : decode cX2_distanceOf 23 = .ok (.iconst (-1), 1) := by decide +kernel
theorem dX2_distanceOf_24 : decode cX2_distanceOf 24 = .ok (.ireturn, 1) := by decide +kernel
theorem dX2_marked_0 : decode cX2_marked 0 = .ok (.iconst 0, 1) := by decide +kernel
theorem dX2_marked_1 : decode cX2_marked 1 = .ok (.istore_n 1, 1) := by decide +kernel
theorem dX2_marked_2 : decode cX2_marked 2 = .ok (.iconst 0, 1) := by decide +kernel
theorem dX2_marked_3 : decode cX2_marked 3 = .ok (.istore_n 2, 1) := by decide +kernel
theorem dX2_marked_4 : decode cX2_marked 4 = .ok (.iload_n 2, 1) := by decide +kernel
theorem dX2_marked_5 : decode cX2_marked 5 = .ok (.bipush 48, 2) := by decide +kernel
theorem dX2_marked_7 : decode cX2_marked 7 = .ok (.if_icmp .ge 21, 3) := by decide +kernel
theorem dX2_marked_10 : decode cX2_marked 10 = .ok (.aload_n 0, 1) := by decide +kernel
theorem dX2_marked_11 : decode cX2_marked 11 = .ok (.getfield 21, 3) := by decide +kernel
theorem dX2_marked_14 : decode cX2_marked 14 = .ok (.iload_n 2, 1) := by decide +kernel
theorem dX2_marked_15 : decode cX2_marked 15 = .ok (.baload, 1) := by decide +kernel
theorem dX2_marked_16 : decode cX2_marked 16 = .ok (.ifCond .eq 6, 3) := by decide +kernel
theorem dX2_marked_19 : decode cX2_marked 19 = .ok (.iinc 1 1, 3) := by decide +kernel
theorem dX2_marked_22 : decode cX2_marked 22 = .ok (.iinc 2 1, 3) := by decide +kernel
theorem dX2_marked_25 : decode cX2_marked 25 = .ok (.goto (-21), 3) := by decide +kernel
theorem dX2_marked_28 : decode cX2_marked 28 = .ok (.iload_n 1, 1) := by decide +kernel
theorem dX2_marked_29 : decode cX2_marked 29 = .ok (.ireturn, 1) := by decide +kernel
theorem dX3_init_0 : decode cX3_init 0 = .ok (.aload_n 0, 1) := by decide +kernel
theorem dX3_init_1 : decode cX3_init 1 = .ok (.invokespecial 3, 3) := by decide +kernel
theorem dX3_init_4 : decode cX3_init 4 = .ok (.aload_n 0, 1) := by decide +kernel
theorem dX3_init_5 : decode cX3_init 5 = .ok (.bipush 48, 2) := by decide +kernel
theorem dX3_init_7 : decode cX3_init 7 = .ok (.newarray .int, 2) := by decide +kernel
theorem dX3_init_9 : decode cX3_init 9 = .ok (.putfield 9, 3) := by decide +kernel
theorem dX3_init_12 : decode cX3_init 12 = .ok (.aload_n 0, 1) := by decide +kernel
theorem dX3_init_13 : decode cX3_init 13 = .ok (.bipush 48, 2) := by decide +kernel
theorem dX3_init_15 : decode cX3_init 15 = .ok (.newarray .int, 2) := by decide +kernel
theorem dX3_init_17 : decode cX3_init 17 = .ok (.putfield 15, 3) := by decide +kernel
theorem dX3_init_20 : decode cX3_init 20 = .ok (.aload_n 0, 1) := by decide +kernel
theorem dX3_init_21 : decode cX3_init 21 = .ok (.bipush 48, 2) := by decide +kernel
theorem dX3_init_23 : decode cX3_init 23 = .ok (.newarray .int, 2) := by decide +kernel
theorem dX3_init_25 : decode cX3_init 25 = .ok (.putfield 18, 3) := by decide +kernel
theorem dX3_init_28 : decode cX3_init 28 = .ok (.aload_n 0, 1) := by decide +kernel
theorem dX3_init_29 : decode cX3_init 29 = .ok (.bipush 48, 2) := by decide +kernel
theorem dX3_init_31 : decode cX3_init 31 = .ok (.newarray .int, 2) := by decide +kernel
theorem dX3_init_33 : decode cX3_init 33 = .ok (.putfield 21, 3) := by decide +kernel
theorem dX3_init_36 : decode cX3_init 36 = .ok (.aload_n 0, 1) := by decide +kernel
theorem dX3_init_37 : decode cX3_init 37 = .ok (.bipush 48, 2) := by decide +kernel
theorem dX3_init_39 : decode cX3_init 39 = .ok (.newarray .int, 2) := by decide +kernel
theorem dX3_init_41 : decode cX3_init 41 = .ok (.putfield 24, 3) := by decide +kernel
theorem dX3_init_44 : decode cX3_init 44 = .ok (.aload_n 0, 1) := by decide +kernel
theorem dX3_init_45 : decode cX3_init 45 = .ok (.bipush 48, 2) := by decide +kernel
theorem dX3_init_47 : decode cX3_init 47 = .ok (.newarray .int, 2) := by decide +kernel
theorem dX3_init_49 : decode cX3_init 49 = .ok (.putfield 27, 3) := by decide +kernel
theorem dX3_init_52 : decode cX3_init 52 = .ok (.aload_n 0, 1) := by decide +kernel
theorem dX3_init_53 : decode cX3_init 53 = .ok (.bipush 48, 2) := by decide +kernel
theorem dX3_init_55 : decode cX3_init 55 = .ok (.newarray .int, 2) := by decide +kernel
theorem dX3_init_57 : decode cX3_init 57 = .ok (.putfield 30, 3) := by decide +kernel
theorem dX3_init_60 : decode cX3_init 60 = .ok (.aload_n 0, 1) := by decide +kernel
theorem dX3_init_61 : decode cX3_init 61 = .ok (.bipush 48, 2) := by decide +kernel
theorem dX3_init_63 : decode cX3_init 63 = .ok (.newarray .boolean, 2) := by decide +kernel
theorem dX3_init_65 : decode cX3_init 65 = .ok (.putfield 33, 3) := by decide +kernel
theorem dX3_init_68 : decode cX3_init 68 = .ok (.aload_n 0, 1) := by decide +kernel
theorem dX3_init_69 : decode cX3_init 69 = .ok (.bipush 48, 2) := by decide +kernel
theorem dX3_init_71 : decode cX3_init 71 = .ok (.newarray .int, 2) := by decide +kernel
theorem dX3_init_73 : decode cX3_init 73 = .ok (.putfield 37, 3) := by decide +kernel
theorem dX3_init_76 : decode cX3_init 76 = .ok (.aload_n 0, 1) := by decide +kernel
theorem dX3_init_77 : decode cX3_init 77 = .ok (.iconst 0, 1) := by decide +kernel
theorem dX3_init_78 : decode cX3_init 78 = .ok (.putfield 40, 3) := by decide +kernel
theorem dX3_init_81 : decode cX3_init 81 = .ok (.return_, 1) := by decide +kernel
set_option maxRecDepth 20000 in
theorem ggX3_show_X3_findOpaque : GoodIn wsX3_show wsX3_findOpaque := goodIn_r _ [5, 6, 7, 8, 9, 10, 11, 12, 13, 14, 15, 16, 17, 18, 19, 20, 21, 22, 23, 24, 25, 26, 27, 28, 29, 30, 31, 32, 4, 33, 34, 35, 36, 37, 38, 39, 40, 41, 42, 43, 44, 45, 46, 47, 48, 49, 50, 51, 52, 90, 91, 92, 93, 94, 95, 96, 97, 98, 99, 100, 101, 102, 103, 104] (by decide +kernel) (by decide +kernel)
set_option maxRecDepth 20000 in
theorem gX3_show_X3_findOpaque : GoodIn wsX3_show (wsV RX3 44 RX3 yX3_findOpaque wsX3_findOpaque) := goodIn_app (goodIn_of _ (by decide +kernel)) ggX3_show_X3_findOpaque
set_option maxRecDepth 20000 in
theorem ggX3_show_X3_findKinds : GoodIn wsX3_show wsX3_findKinds := goodIn_r _ [56, 57, 58, 59, 60, 61, 4, 62, 8, 16, 17, 18, 63, 64, 65, 66, 51, 52, 95, 96, 97, 98, 99, 100, 101, 102, 103, 104, 90, 91, 92, 93, 94] (by decide +kernel) (by decide +kernel)
set_option maxRecDepth 20000 in
theorem gX3_show_X3_findKinds : GoodIn wsX3_show (wsV RX3 48 RX3 yX3_findKinds wsX3_findKinds) := goodIn_app (goodIn_of _ (by decide +kernel)) ggX3_show_X3_findKinds
set_option maxRecDepth 20000 in
theorem ggX3_show_X3_compose : GoodIn wsX3_show wsX3_compose := goodIn_r _ [70, 71, 72, 73, 74, 57, 75, 76, 77, 8, 78, 17, 79, 25, 26, 27, 28, 29, 30, 80, 81, 82, 83, 23, 84, 85, 86, 4, 87, 6, 88, 89, 90, 91, 92, 93, 94, 95, 96, 97, 98, 99, 100, 101, 102, 103, 104] (by decide +kernel) (by decide +kernel)
set_option maxRecDepth 20000 in
theorem gX3_show_X3_compose : GoodIn wsX3_show (wsV RX3 51 RX3 yX3_compose wsX3_compose) := goodIn_app (goodIn_of _ (by decide +kernel)) ggX3_show_X3_compose
theorem dX3_show_0 : decode cX3_show 0 = .ok (.aload_n 0, 1) := by decide +kernel
theorem dX3_show_1 : decode cX3_show 1 = .ok (.aload_n 1, 1) := by decide +kernel
theorem dX3_show_2 : decode cX3_show 2 = .ok (.invokevirtual 44, 3) := by decide +kernel
theorem dX3_show_5 : decode cX3_show 5 = .ok (.aload_n 0, 1) := by decide +kernel
theorem dX3_show_6 : decode cX3_show 6 = .ok (.aload_n 1, 1) := by decide +kernel
theorem dX3_show_7 : decode cX3_show 7 = .ok (.invokevirtual 48, 3) := by decide +kernel
theorem dX3_show_10 : decode cX3_show 10 = .ok (.aload_n 0, 1) := by decide +kernel
theorem dX3_show_11 : decode cX3_show 11 = .ok (.aload_n 1, 1) := by decide +kernel
theorem dX3_show_12 : decode cX3_show 12 = .ok (.invokevirtual 51, 3) := by decide +kernel
theorem dX3_show_15 : decode cX3_show 15 = .ok (.return_, 1) := by decide +kernel
set_option maxRecDepth 20000 in
theorem ggX3_clearPixels_X3_findOpaque : GoodIn wsX3_clearPixels wsX3_findOpaque := goodIn_r _ [7, 8, 9, 1, 10, 11, 12, 13, 14, 15, 16, 17, 18, 19, 20, 21, 22, 23, 24, 25, 26, 27, 28, 29, 30, 31, 32, 33, 6, 34, 35, 36, 37, 38, 39, 40, 41, 42, 43, 44, 45, 46, 47, 48, 49, 50, 51, 52, 53, 64, 65, 66, 67, 68, 54, 55, 56, 57, 58, 59, 60, 61, 62, 63] (by decide +kernel) (by decide +kernel)
set_option maxRecDepth 20000 in
theorem gX3_clearPixels_X3_findOpaque : GoodIn wsX3_clearPixels (wsV RX3 44 RX3 yX3_findOpaque wsX3_findOpaque) := goodIn_app (goodIn_of _ (by decide +kernel)) ggX3_clearPixels_X3_findOpaque
theorem dX3_clearPixels_0 : decode cX3_clearPixels 0 = .ok (.aload_n 0, 1) := by decide +kernel
theorem dX3_clearPixels_1 : decode cX3_clearPixels 1 = .ok (.aload_n 1, 1) := by decide +kernel
theorem dX3_clearPixels_2 : decode cX3_clearPixels 2 = .ok (.invokevirtual 44, 3) := by decide +kernel
theorem dX3_clearPixels_5 : decode cX3_clearPixels 5 = .ok (.iconst 0, 1) := by decide +kernel
theorem dX3_clearPixels_6 : decode cX3_clearPixels 6 = .ok (.istore_n 2, 1) := by decide +kernel
theorem dX3_clearPixels_7 : decode cX3_clearPixels 7 = .ok (.iconst 0, 1) := by decide +kernel
theorem dX3_clearPixels_8 : decode cX3_clearPixels 8 = .ok (.istore_n 3, 1) := by decide +kernel
theorem dX3_clearPixels_9 : decode cX3_clearPixels 9 = .ok (.iload_n 3, 1) := by decide +kernel
theorem dX3_clearPixels_10 : decode cX3_clearPixels 10 = .ok (.bipush 48, 2) := by decide +kernel
theorem dX3_clearPixels_12 : decode cX3_clearPixels 12 = .ok (.if_icmp .ge 30, 3) := by decide +kernel
theorem dX3_clearPixels_15 : decode cX3_clearPixels 15 = .ok (.aload_n 0, 1) := by decide +kernel
theorem dX3_clearPixels_16 : decode cX3_clearPixels 16 = .ok (.getfield 15, 3) := by decide +kernel
theorem dX3_clearPixels_19 : decode cX3_clearPixels 19 = .ok (.iload_n 3, 1) := by decide +kernel
theorem dX3_clearPixels_20 : decode cX3_clearPixels 20 = .ok (.iaload, 1) := by decide +kernel
theorem dX3_clearPixels_21 : decode cX3_clearPixels 21 = .ok (.ifCond .ne 15, 3) := by decide +kernel
theorem dX3_clearPixels_24 : decode cX3_clearPixels 24 = .ok (.aload_n 1, 1) := by decide +kernel
theorem dX3_clearPixels_25 : decode cX3_clearPixels 25 = .ok (.getfield 54, 3) := by decide +kernel
theorem dX3_clearPixels_28 : decode cX3_clearPixels 28 = .ok (.iload_n 3, 1) := by decide +kernel
theorem dX3_clearPixels_29 : decode cX3_clearPixels 29 = .ok (.baload, 1) := by decide +kernel
theorem dX3_clearPixels_30 : decode cX3_clearPixels 30 = .ok (.ifCond .ne 6, 3) := by decide +kernel
theorem dX3_clearPixels_33 : decode cX3_clearPixels 33 = .ok (.iinc 2 1, 3) := by decide +kernel
theorem dX3_clearPixels_36 : decode cX3_clearPixels 36 = .ok (.iinc 3 1, 3) := by decide +kernel
theorem dX3_clearPixels_39 : decode cX3_clearPixels 39 = .ok (.goto (-30), 3) := by decide +kernel
theorem dX3_clearPixels_42 : decode cX3_clearPixels 42 = .ok (.iload_n 2, 1) := by decide +kernel
theorem dX3_clearPixels_43 : decode cX3_clearPixels 43 = .ok (.ireturn, 1) := by decide +kernel
theorem dX3_ofKind_0 : decode cX3_ofKind 0 = .ok (.iconst 0, 1) := by decide +kernel
theorem dX3_ofKind_1 : decode cX3_ofKind 1 = .ok (.istore_n 2, 1) := by decide +kernel
theorem dX3_ofKind_2 : decode cX3_ofKind 2 = .ok (.iconst 0, 1) := by decide +kernel
theorem dX3_ofKind_3 : decode cX3_ofKind 3 = .ok (.istore_n 3, 1) := by decide +kernel
theorem dX3_ofKind_4 : decode cX3_ofKind 4 = .ok (.iload_n 3, 1) := by decide +kernel
theorem dX3_ofKind_5 : decode cX3_ofKind 5 = .ok (.bipush 48, 2) := by decide +kernel
theorem dX3_ofKind_7 : decode cX3_ofKind 7 = .ok (.if_icmp .ge 22, 3) := by decide +kernel
theorem dX3_ofKind_10 : decode cX3_ofKind 10 = .ok (.aload_n 0, 1) := by decide +kernel
theorem dX3_ofKind_11 : decode cX3_ofKind 11 = .ok (.getfield 18, 3) := by decide +kernel
theorem dX3_ofKind_14 : decode cX3_ofKind 14 = .ok (.iload_n 3, 1) := by decide +kernel
theorem dX3_ofKind_15 : decode cX3_ofKind 15 = .ok (.iaload, 1) := by decide +kernel
theorem dX3_ofKind_16 : decode cX3_ofKind 16 = .ok (.iload_n 1, 1) := by decide +kernel
theorem dX3_ofKind_17 : decode cX3_ofKind 17 = .ok (.if_icmp .ne 6, 3) := by decide +kernel
theorem dX3_ofKind_20 : decode cX3_ofKind 20 = .ok (.iinc 2 1, 3) := by decide +kernel
theorem dX3_ofKind_23 : decode cX3_ofKind 23 = .ok (.iinc 3 1, 3) := by decide +kernel
theorem dX3_ofKind_26 : decode cX3_ofKind 26 = .ok (.goto (-22), 3) := by decide +kernel
theorem dX3_ofKind_29 : decode cX3_ofKind 29 = .ok (.iload_n 2, 1) := by decide +kernel
theorem dX3_ofKind_30 : decode cX3_ofKind 30 = .ok (.ireturn, 1) := by decide +kernel
theorem dX3_closed_0 : decode cX3_closed 0 = .ok (.iconst 0, 1) := by decide +kernel
theorem dX3_closed_1 : decode cX3_closed 1 = .ok (.istore_n 1, 1) := by decide +kernel
theorem dX3_closed_2 : decode cX3_closed 2 = .ok (.iconst 0, 1) := by decide +kernel
theorem dX3_closed_3 : decode cX3_closed 3 = .ok (.istore_n 2, 1) := by decide +kernel
theorem dX3_closed_4 : decode cX3_closed 4 = .ok (.iload_n 2, 1) := by decide +kernel
theorem dX3_closed_5 : decode cX3_closed 5 = .ok (.bipush 48, 2) := by decide +kernel
theorem dX3_closed_7 : decode cX3_closed 7 = .ok (.if_icmp .ge 27, 3) := by decide +kernel
theorem dX3_closed_10 : decode cX3_closed 10 = .ok (.aload_n 0, 1) := by decide +kernel
theorem dX3_closed_11 : decode cX3_closed 11 = .ok (.getfield 15, 3) := by decide +kernel
theorem dX3_closed_14 : decode cX3_closed 14 = .ok (.iload_n 2, 1) := by decide +kernel
theorem dX3_closed_15 : decode cX3_closed 15 = .ok (.iaload, 1) := by decide +kernel
theorem dX3_closed_16 : decode cX3_closed 16 = .ok (.aload_n 0, 1) := by decide +kernel
theorem dX3_closed_17 : decode cX3_closed 17 = .ok (.getfield 9, 3) := by decide +kernel
theorem dX3_closed_20 : decode cX3_closed 20 = .ok (.iload_n 2, 1) := by decide +kernel
theorem dX3_closed_21 : decode cX3_closed 21 = .ok (.iaload, 1) := by decide +kernel
theorem dX3_closed_22 : decode cX3_closed 22 = .ok (.if_icmp .eq 6, 3) := by decide +kernel
theorem dX3_closed_25 : decode cX3_closed 25 = .ok (.iinc 1 1, 3) := by decide +kernel
theorem dX3_closed_28 : decode cX3_closed 28 = .ok (.iinc 2 1, 3) := by decide +kernel
theorem dX3_closed_31 : decode cX3_closed 31 = .ok (.goto (-27), 3) := by decide +kernel
theorem dX3_closed_34 : decode cX3_closed 34 = .ok (.iload_n 1, 1) := by decide +kernel
theorem dX3_closed_35 : decode cX3_closed 35 = .ok (.ireturn, 1) := by decide +kernel
set_option maxRecDepth 20000 in
theorem ggX3_spillLeft_X4_mainPart : GoodIn wsX3_spillLeft wsX4_mainPart := goodIn_r _ [5, 6, 7, 4, 8, 9, 10, 11] (by decide +kernel) (by decide +kernel)
set_option maxRecDepth 20000 in
theorem gX3_spillLeft_X4_mainPart_n62 : GoodIn wsX3_spillLeft (wsX4_mainPart) := ggX3_spillLeft_X4_mainPart
set_option maxRecDepth 20000 in
theorem ggX3_spillLeft_X4_spillIn : GoodIn wsX3_spillLeft wsX4_spillIn := goodIn_r _ [13, 14, 15, 16, 17, 6, 7, 4, 8, 9, 10, 11] (by decide +kernel) (by decide +kernel)
set_option maxRecDepth 20000 in
theorem gX3_spillLeft_X4_spillIn_n66 : GoodIn wsX3_spillLeft (wsX4_spillIn) := ggX3_spillLeft_X4_spillIn
theorem dX3_spillLeft_0 : decode cX3_spillLeft 0 = .ok (.aload_n 1, 1) := by decide +kernel
theorem dX3_spillLeft_1 : decode cX3_spillLeft 1 = .ok (.getfield 59, 3) := by decide +kernel
theorem dX3_spillLeft_4 : decode cX3_spillLeft 4 = .ok (.invokestatic 62, 3) := by decide +kernel
theorem dX3_spillLeft_7 : decode cX3_spillLeft 7 = .ok (.istore_n 2, 1) := by decide +kernel
theorem dX3_spillLeft_8 : decode cX3_spillLeft 8 = .ok (.iconst 0, 1) := by decide +kernel
theorem dX3_spillLeft_9 : decode cX3_spillLeft 9 = .ok (.istore_n 3, 1) := by decide +kernel
theorem dX3_spillLeft_10 : decode cX3_spillLeft 10 = .ok (.iconst 0, 1) := by decide +kernel
theorem dX3_spillLeft_11 : decode cX3_spillLeft 11 = .ok (.istore 4, 2) := by decide +kernel
theorem dX3_spillLeft_13 : decode cX3_spillLeft 13 = .ok (.iload 4, 2) := by decide +kernel
theorem dX3_spillLeft_15 : decode cX3_spillLeft 15 = .ok (.bipush 48, 2) := by decide +kernel
theorem dX3_spillLeft_17 : decode cX3_spillLeft 17 = .ok (.if_icmp .ge 23, 3) := by decide +kernel
theorem dX3_spillLeft_20 : decode cX3_spillLeft 20 = .ok (.iload_n 3, 1) := by decide +kernel
theorem dX3_spillLeft_21 : decode cX3_spillLeft 21 = .ok (.aload_n 0, 1) := by decide +kernel
theorem dX3_spillLeft_22 : decode cX3_spillLeft 22 = .ok (.getfield 30, 3) := by decide +kernel
theorem dX3_spillLeft_25 : decode cX3_spillLeft 25 = .ok (.iload 4, 2) := by decide +kernel
theorem dX3_spillLeft_27 : decode cX3_spillLeft 27 = .ok (.iaload, 1) := by decide +kernel
theorem dX3_spillLeft_28 : decode cX3_spillLeft 28 = .ok (.iload_n 2, 1) := by decide +kernel
theorem dX3_spillLeft_29 : decode cX3_spillLeft 29 = .ok (.invokestatic 66, 3) := by decide +kernel
theorem dX3_spillLeft_32 : decode cX3_spillLeft 32 = .ok (.iadd, 1) := by decide +kernel
theorem dX3_spillLeft_33 : decode cX3_spillLeft 33 = .ok (.istore_n 3, 1) := by decide +kernel
theorem dX3_spillLeft_34 : decode cX3_spillLeft 34 = .ok (.iinc 4 1, 3) := by decide +kernel
theorem dX3_spillLeft_37 : decode cX3_spillLeft 37 = .ok (.goto (-24), 3) := by decide +kernel
theorem dX3_spillLeft_40 : decode cX3_spillLeft 40 = .ok (.iload_n 3, 1) := by decide +kernel
theorem dX3_spillLeft_41 : decode cX3_spillLeft 41 = .ok (.ireturn, 1) := by decide +kernel
set_option maxRecDepth 20000 in
theorem ggX3_findOpaque_X2_distanceOf : GoodIn wsX3_findOpaque wsX2_distanceOf := goodIn_r _ [8, 9, 10, 11, 12, 13, 14, 15, 16, 17, 18, 19, 20, 21, 22, 23, 24, 25, 49, 50, 51, 52, 53] (by decide +kernel) (by decide +kernel)
set_option maxRecDepth 20000 in
theorem gX3_findOpaque_X2_distanceOf : GoodIn wsX3_findOpaque (wsV RX3 73 RX2 yX2_distanceOf wsX2_distanceOf) := goodIn_app (goodIn_of _ (by decide +kernel)) ggX3_findOpaque_X2_distanceOf
set_option maxRecDepth 20000 in
theorem ggX3_findOpaque_X3_rawOpaque : GoodIn wsX3_findOpaque wsX3_rawOpaque := goodIn_r _ [29] (by decide +kernel) (by decide +kernel)
set_option maxRecDepth 20000 in
theorem gX3_findOpaque_X3_rawOpaque : GoodIn wsX3_findOpaque (va_wsS RX3 76 yX3_rawOpaque wsX3_rawOpaque) := goodIn_app (goodIn_of _ (by decide +kernel)) ggX3_findOpaque_X3_rawOpaque
set_option maxRecDepth 20000 in
theorem ggX3_findOpaque_X3_closeHoles : GoodIn wsX3_findOpaque wsX3_closeHoles := goodIn_r _ [33, 34, 3, 35, 36, 37, 28, 38, 39, 40, 41, 12, 42, 43, 44, 45, 46, 2, 11, 13, 47, 48, 54, 55, 56, 57, 58, 59, 60, 61, 62, 63] (by decide +kernel) (by decide +kernel)
set_option maxRecDepth 20000 in
theorem gX3_findOpaque_X3_closeHoles : GoodIn wsX3_findOpaque (wsV RX3 80 RX3 yX3_closeHoles wsX3_closeHoles) := goodIn_app (goodIn_of _ (by decide +kernel)) ggX3_findOpaque_X3_closeHoles
theorem dX3_findOpaque_0 : decode cX3_findOpaque 0 = .ok (.aload_n 1, 1) := by decide +kernel
theorem dX3_findOpaque_1 : decode cX3_findOpaque 1 = .ok (.getfield 70, 3) := by decide +kernel
theorem dX3_findOpaque_4 : decode cX3_findOpaque 4 = .ok (.iconst 0, 1) := by decide +kernel
theorem dX3_findOpaque_5 : decode cX3_findOpaque 5 = .ok (.iaload, 1) := by decide +kernel
theorem dX3_findOpaque_6 : decode cX3_findOpaque 6 = .ok (.istore_n 2, 1) := by decide +kernel
theorem dX3_findOpaque_7 : decode cX3_findOpaque 7 = .ok (.aload_n 1, 1) := by decide +kernel
theorem dX3_findOpaque_8 : decode cX3_findOpaque 8 = .ok (.getfield 70, 3) := by decide +kernel
theorem dX3_findOpaque_11 : decode cX3_findOpaque 11 = .ok (.iconst 1, 1) := by decide +kernel
theorem dX3_findOpaque_12 : decode cX3_findOpaque 12 = .ok (.iaload, 1) := by decide +kernel
theorem dX3_findOpaque_13 : decode cX3_findOpaque 13 = .ok (.istore_n 3, 1) := by decide +kernel
theorem dX3_findOpaque_14 : decode cX3_findOpaque 14 = .ok (.iconst 0, 1) := by decide +kernel
theorem dX3_findOpaque_15 : decode cX3_findOpaque 15 = .ok (.istore 4, 2) := by decide +kernel
theorem dX3_findOpaque_17 : decode cX3_findOpaque 17 = .ok (.iload 4, 2) := by decide +kernel
theorem dX3_findOpaque_19 : decode cX3_findOpaque 19 = .ok (.bipush 48, 2) := by decide +kernel
theorem dX3_findOpaque_21 : decode cX3_findOpaque 21 = .ok (.if_icmp .ge 41, 3) := by decide +kernel
theorem dX3_findOpaque_24 : decode cX3_findOpaque 24 = .ok (.aload_n 0, 1) := by decide +kernel
theorem dX3_findOpaque_25 : decode cX3_findOpaque 25 = .ok (.getfield 9, 3) := by decide +kernel
theorem dX3_findOpaque_28 : decode cX3_findOpaque 28 = .ok (.iload 4, 2) := by decide +kernel
theorem dX3_findOpaque_30 : decode cX3_findOpaque 30 = .ok (.aload_n 1, 1) := by decide +kernel
theorem dX3_findOpaque_31 : decode cX3_findOpaque 31 = .ok (.iload 4, 2) := by decide +kernel
theorem dX3_findOpaque_33 : decode cX3_findOpaque 33 = .ok (.invokevirtual 73, 3) := by decide +kernel
theorem dX3_findOpaque_36 : decode cX3_findOpaque 36 = .ok (.iload_n 2, 1) := by decide +kernel
theorem dX3_findOpaque_37 : decode cX3_findOpaque 37 = .ok (.iload_n 3, 1) := by decide +kernel
theorem dX3_findOpaque_38 : decode cX3_findOpaque 38 = .ok (.invokestatic 76, 3) := by decide +kernel
theorem dX3_findOpaque_41 : decode cX3_findOpaque 41 = .ok (.iastore, 1) := by decide +kernel
theorem dX3_findOpaque_42 : decode cX3_findOpaque 42 = .ok (.aload_n 0, 1) := by decide +kernel
theorem dX3_findOpaque_43 : decode cX3_findOpaque 43 = .ok (.getfield 15, 3) := by decide +kernel
theorem dX3_findOpaque_46 : decode cX3_findOpaque 46 = .ok (.iload 4, 2) := by decide +kernel
theorem dX3_findOpaque_48 : decode cX3_findOpaque 48 = .ok (.aload_n 0, 1) := by decide +kernel
theorem dX3_findOpaque_49 : decode cX3_findOpaque 49 = .ok (.getfield 9, 3) := by decide +kernel
theorem dX3_findOpaque_52 : decode cX3_findOpaque 52 = .ok (.iload 4, 2) := by decide +kernel
theorem dX3_findOpaque_54 : decode cX3_findOpaque 54 = .ok (.iaload, 1) := by decide +kernel
theorem dX3_findOpaque_55 : decode cX3_findOpaque 55 = .ok (.iastore, 1) := by decide +kernel
theorem dX3_findOpaque_56 : decode cX3_findOpaque 56 = .ok (.iinc 4 1, 3) := by decide +kernel
theorem dX3_findOpaque_59 : decode cX3_findOpaque 59 = .ok (.goto (-42), 3) := by decide +kernel
theorem dX3_findOpaque_62 : decode cX3_findOpaque 62 = .ok (.aload_n 1, 1) := by decide +kernel
theorem dX3_findOpaque_63 : decode cX3_findOpaque 63 = .ok (.getfield 70, 3) := by decide +kernel
theorem dX3_findOpaque_66 : decode cX3_findOpaque 66 = .ok (.iconst 5, 1) := by decide +kernel
theorem dX3_findOpaque_67 : decode cX3_findOpaque 67 = .ok (.iaload, 1) := by decide +kernel
theorem dX3_findOpaque_68 : decode cX3_findOpaque 68 = .ok (.iconst 1, 1) := by decide +kernel
theorem dX3_findOpaque_69 : decode cX3_findOpaque 69 = .ok (.if_icmp .ne 7, 3) := by decide +kernel
theorem dX3_findOpaque_72 : decode cX3_findOpaque 72 = .ok (.aload_n 0, 1) := by decide +kernel
theorem dX3_findOpaque_73 : decode cX3_findOpaque 73 = .ok (.invokevirtual 80, 3) := by decide +kernel
theorem dX3_findOpaque_76 : decode cX3_findOpaque 76 = .ok (.return_, 1) := by decide +kernel
theorem dX3_rawOpaque_0 : decode cX3_rawOpaque 0 = .ok (.iload_n 0, 1) := by decide +kernel
theorem dX3_rawOpaque_1 : decode cX3_rawOpaque 1 = .ok (.iload_n 1, 1) := by decide +kernel
theorem dX3_rawOpaque_2 : decode cX3_rawOpaque 2 = .ok (.if_icmp .gt 5, 3) := by decide +kernel
theorem dX3_rawOpaque_5 : decode cX3_rawOpaque 5 = .ok (.iconst 0, 1) := by decide +kernel
theorem dX3_rawOpaque_6 : decode cX3_rawOpaque 6 = .ok (.ireturn, 1) := by decide +kernel
theorem dX3_rawOpaque_7 : decode cX3_rawOpaque 7 = .ok (.iload_n 0, 1) := by decide +kernel
theorem dX3_rawOpaque_8 : decode cX3_rawOpaque 8 = .ok (.iload_n 2, 1) := by decide +kernel
theorem dX3_rawOpaque_9 : decode cX3_rawOpaque 9 = .ok (.if_icmp .lt 6, 3) := by decide +kernel
theorem dX3_rawOpaque_12 : decode cX3_rawOpaque 12 = .ok (.bipush 16, 2) := by decide +kernel
theorem dX3_rawOpaque_14 : decode cX3_rawOpaque 14 = .ok (.ireturn, 1) := by decide +kernel
theorem dX3_rawOpaque_15 : decode cX3_rawOpaque 15 = .ok (.bipush 16, 2) := by decide +kernel
theorem dX3_rawOpaque_17 : decode cX3_rawOpaque 17 = .ok (.iload_n 0, 1) := by decide +kernel
theorem dX3_rawOpaque_18 : decode cX3_rawOpaque 18 = .ok (.iload_n 1, 1) := by decide +kernel
theorem dX3_rawOpaque_19 : decode cX3_rawOpaque 19 = .ok (.isub, 1) := by decide +kernel
theorem dX3_rawOpaque_20 : decode cX3_rawOpaque 20 = .ok (.imul, 1) := by decide +kernel
theorem dX3_rawOpaque_21 : decode cX3_rawOpaque 21 = .ok (.iload_n 2, 1) := by decide +kernel
theorem dX3_rawOpaque_22 : decode cX3_rawOpaque 22 = .ok (.iload_n 1, 1) := by decide +kernel
theorem dX3_rawOpaque_23 : decode cX3_rawOpaque 23 = .ok (.isub, 1) := by decide +kernel
theorem dX3_rawOpaque_24 : decode cX3_rawOpaque 24 = .ok (.idiv, 1) := by decide +kernel
theorem dX3_rawOpaque_25 : decode cX3_rawOpaque 25 = .ok (.ireturn, 1) := by decide +kernel
set_option maxRecDepth 20000 in
theorem ggX3_closeHoles_X3_reachFromEdge : GoodIn wsX3_closeHoles wsX3_reachFromEdge := goodIn_r _ [7, 8, 1, 9, 10, 11, 12, 13, 14, 15, 6, 16, 17, 18, 19, 20, 21, 22, 23, 24, 25, 26, 27, 28, 29, 30, 31] (by decide +kernel) (by decide +kernel)
set_option maxRecDepth 20000 in
theorem gX3_closeHoles_X3_reachFromEdge : GoodIn wsX3_closeHoles (wsV RX3 83 RX3 yX3_reachFromEdge wsX3_reachFromEdge) := goodIn_app (goodIn_of _ (by decide +kernel)) ggX3_closeHoles_X3_reachFromEdge
theorem dX3_closeHoles_0 : decode cX3_closeHoles 0 = .ok (.aload_n 0, 1) := by decide +kernel
theorem dX3_closeHoles_1 : decode cX3_closeHoles 1 = .ok (.invokevirtual 83, 3) := by decide +kernel
theorem dX3_closeHoles_4 : decode cX3_closeHoles 4 = .ok (.iconst 0, 1) := by decide +kernel
theorem dX3_closeHoles_5 : decode cX3_closeHoles 5 = .ok (.istore_n 1, 1) := by decide +kernel
theorem dX3_closeHoles_6 : decode cX3_closeHoles 6 = .ok (.iload_n 1, 1) := by decide +kernel
theorem dX3_closeHoles_7 : decode cX3_closeHoles 7 = .ok (.bipush 48, 2) := by decide +kernel
theorem dX3_closeHoles_9 : decode cX3_closeHoles 9 = .ok (.if_icmp .ge 26, 3) := by decide +kernel
theorem dX3_closeHoles_12 : decode cX3_closeHoles 12 = .ok (.aload_n 0, 1) := by decide +kernel
theorem dX3_closeHoles_13 : decode cX3_closeHoles 13 = .ok (.getfield 33, 3) := by decide +kernel
theorem dX3_closeHoles_16 : decode cX3_closeHoles 16 = .ok (.iload_n 1, 1) := by decide +kernel
theorem dX3_closeHoles_17 : decode cX3_closeHoles 17 = .ok (.baload, 1) := by decide +kernel
theorem dX3_closeHoles_18 : decode cX3_closeHoles 18 = .ok (.ifCond .ne 11, 3) := by decide +kernel
theorem dX3_closeHoles_21 : decode cX3_closeHoles 21 = .ok (.aload_n 0, 1) := by decide +kernel
theorem dX3_closeHoles_22 : decode cX3_closeHoles 22 = .ok (.getfield 15, 3) := by decide +kernel
theorem dX3_closeHoles_25 : decode cX3_closeHoles 25 = .ok (.iload_n 1, 1) := by decide +kernel
theorem dX3_closeHoles_26 : decode cX3_closeHoles 26 = .ok (.bipush 16, 2) := by decide +kernel
theorem dX3_closeHoles_28 : decode cX3_closeHoles 28 = .ok (.iastore, 1) := by decide +kernel
theorem dX3_closeHoles_29 : decode cX3_closeHoles 29 = .ok (.iinc 1 1, 3) := by decide +kernel
theorem dX3_closeHoles_32 : decode cX3_closeHoles 32 = .ok (.goto (-26), 3) := by decide +kernel
theorem dX3_closeHoles_35 : decode cX3_closeHoles 35 = .ok (.return_, 1) := by decide +kernel
set_option maxRecDepth 20000 in
theorem ggX3_reachFromEdge_X4_isAtEdge : GoodIn wsX3_reachFromEdge wsX4_isAtEdge := goodIn_r _ [6] (by decide +kernel) (by decide +kernel)
set_option maxRecDepth 20000 in
theorem gX3_reachFromEdge_X4_isAtEdge_n86 : GoodIn wsX3_reachFromEdge (wsX4_isAtEdge) := ggX3_reachFromEdge_X4_isAtEdge
set_option maxRecDepth 20000 in
theorem ggX3_reachFromEdge_X3_reach : GoodIn wsX3_reachFromEdge wsX3_reach := goodIn_r _ [11, 12, 2, 1, 3, 13, 5, 14, 17, 18, 19, 20, 21, 22, 23, 24, 25, 26] (by decide +kernel) (by decide +kernel)
set_option maxRecDepth 20000 in
theorem gX3_reachFromEdge_X3_reach : GoodIn wsX3_reachFromEdge (wsV RX3 90 RX3 yX3_reach wsX3_reach) := goodIn_app (goodIn_of _ (by decide +kernel)) ggX3_reachFromEdge_X3_reach
set_option maxRecDepth 20000 in
theorem ggX3_reachFromEdge_X4_beside : GoodIn wsX3_reachFromEdge wsX4_beside := goodIn_r _ [16] (by decide +kernel) (by decide +kernel)
set_option maxRecDepth 20000 in
theorem gX3_reachFromEdge_X4_beside_n94 : GoodIn wsX3_reachFromEdge (wsX4_beside) := ggX3_reachFromEdge_X4_beside
theorem dX3_reachFromEdge_0 : decode cX3_reachFromEdge 0 = .ok (.aload_n 0, 1) := by decide +kernel
theorem dX3_reachFromEdge_1 : decode cX3_reachFromEdge 1 = .ok (.iconst 0, 1) := by decide +kernel
theorem dX3_reachFromEdge_2 : decode cX3_reachFromEdge 2 = .ok (.putfield 40, 3) := by decide +kernel
theorem dX3_reachFromEdge_5 : decode cX3_reachFromEdge 5 = .ok (.iconst 0, 1) := by decide +kernel
theorem dX3_reachFromEdge_6 : decode cX3_reachFromEdge 6 = .ok (.istore_n 1, 1) := by decide +kernel
theorem dX3_reachFromEdge_7 : decode cX3_reachFromEdge 7 = .ok (.iload_n 1, 1) := by decide +kernel
theorem dX3_reachFromEdge_8 : decode cX3_reachFromEdge 8 = .ok (.bipush 48, 2) := by decide +kernel
theorem dX3_reachFromEdge_10 : decode cX3_reachFromEdge 10 = .ok (.if_icmp .ge 16, 3) := by decide +kernel
theorem dX3_reachFromEdge_13 : decode cX3_reachFromEdge 13 = .ok (.aload_n 0, 1) := by decide +kernel
theorem dX3_reachFromEdge_14 : decode cX3_reachFromEdge 14 = .ok (.getfield 33, 3) := by decide +kernel
theorem dX3_reachFromEdge_17 : decode cX3_reachFromEdge 17 = .ok (.iload_n 1, 1) := by decide +kernel
theorem dX3_reachFromEdge_18 : decode cX3_reachFromEdge 18 = .ok (.iconst 0, 1) := by decide +kernel
theorem dX3_reachFromEdge_19 : decode cX3_reachFromEdge 19 = .ok (.bastore, 1) := by decide +kernel
theorem dX3_reachFromEdge_20 : decode cX3_reachFromEdge 20 = .ok (.iinc 1 1, 3) := by decide +kernel
theorem dX3_reachFromEdge_23 : decode cX3_reachFromEdge 23 = .ok (.goto (-16), 3) := by decide +kernel
theorem dX3_reachFromEdge_26 : decode cX3_reachFromEdge 26 = .ok (.iconst 0, 1) := by decide +kernel
theorem dX3_reachFromEdge_27 : decode cX3_reachFromEdge 27 = .ok (.istore_n 1, 1) := by decide +kernel
theorem dX3_reachFromEdge_28 : decode cX3_reachFromEdge 28 = .ok (.iload_n 1, 1) := by decide +kernel
theorem dX3_reachFromEdge_29 : decode cX3_reachFromEdge 29 = .ok (.bipush 48, 2) := by decide +kernel
theorem dX3_reachFromEdge_31 : decode cX3_reachFromEdge 31 = .ok (.if_icmp .ge 21, 3) := by decide +kernel
theorem dX3_reachFromEdge_34 : decode cX3_reachFromEdge 34 = .ok (.iload_n 1, 1) := by decide +kernel
theorem dX3_reachFromEdge_35 : decode cX3_reachFromEdge 35 = .ok (.invokestatic 86, 3) := by decide +kernel
theorem dX3_reachFromEdge_38 : decode cX3_reachFromEdge 38 = .ok (.ifCond .eq 8, 3) := by decide +kernel
theorem dX3_reachFromEdge_41 : decode cX3_reachFromEdge 41 = .ok (.aload_n 0, 1) := by decide +kernel
theorem dX3_reachFromEdge_42 : decode cX3_reachFromEdge 42 = .ok (.iload_n 1, 1) := by decide +kernel
theorem dX3_reachFromEdge_43 : decode cX3_reachFromEdge 43 = .ok (.invokevirtual 90, 3) := by decide +kernel
theorem dX3_reachFromEdge_46 : decode cX3_reachFromEdge 46 = .ok (.iinc 1 1, 3) := by decide +kernel
theorem dX3_reachFromEdge_49 : decode cX3_reachFromEdge 49 = .ok (.goto (-21), 3) := by decide +kernel
theorem dX3_reachFromEdge_52 : decode cX3_reachFromEdge 52 = .ok (.iconst 0, 1) := by decide +kernel
theorem dX3_reachFromEdge_53 : decode cX3_reachFromEdge 53 = .ok (.istore_n 1, 1) := by decide +kernel
theorem dX3_reachFromEdge_54 : decode cX3_reachFromEdge 54 = .ok (.iload_n 1, 1) := by decide +kernel
theorem dX3_reachFromEdge_55 : decode cX3_reachFromEdge 55 = .ok (.bipush 48, 2) := by decide +kernel
theorem dX3_reachFromEdge_57 : decode cX3_reachFromEdge 57 = .ok (.if_icmp .ge 44, 3) := by decide +kernel
theorem dX3_reachFromEdge_60 : decode cX3_reachFromEdge 60 = .ok (.iload_n 1, 1) := by decide +kernel
theorem dX3_reachFromEdge_61 : decode cX3_reachFromEdge 61 = .ok (.aload_n 0, 1) := by decide +kernel
theorem dX3_reachFromEdge_62 : decode cX3_reachFromEdge 62 = .ok (.getfield 40, 3) := by decide +kernel
theorem dX3_reachFromEdge_65 : decode cX3_reachFromEdge 65 = .ok (.if_icmp .ge 36, 3) := by decide +kernel
theorem dX3_reachFromEdge_68 : decode cX3_reachFromEdge 68 = .ok (.iconst 0, 1) := by decide +kernel
theorem dX3_reachFromEdge_69 : decode cX3_reachFromEdge 69 = .ok (.istore_n 2, 1) := by decide +kernel
theorem dX3_reachFromEdge_70 : decode cX3_reachFromEdge 70 = .ok (.iload_n 2, 1) := by decide +kernel
theorem dX3_reachFromEdge_71 : decode cX3_reachFromEdge 71 = .ok (.iconst 4, 1) := by decide +kernel
theorem dX3_reachFromEdge_72 : decode cX3_reachFromEdge 72 = .ok (.if_icmp .ge 23, 3) := by decide +kernel
theorem dX3_reachFromEdge_75 : decode cX3_reachFromEdge 75 = .ok (.aload_n 0, 1) := by decide +kernel
theorem dX3_reachFromEdge_76 : decode cX3_reachFromEdge 76 = .ok (.aload_n 0, 1) := by decide +kernel
theorem dX3_reachFromEdge_77 : decode cX3_reachFromEdge 77 = .ok (.getfield 37, 3) := by decide +kernel
theorem dX3_reachFromEdge_80 : decode cX3_reachFromEdge 80 = .ok (.iload_n 1, 1) := by decide +kernel
theorem dX3_reachFromEdge_81 : decode cX3_reachFromEdge 81 = .ok (.iaload, 1) := by decide +kernel
theorem dX3_reachFromEdge_82 : decode cX3_reachFromEdge 82 = .ok (.iload_n 2, 1) := by decide +kernel
theorem dX3_reachFromEdge_83 : decode cX3_reachFromEdge 83 = .ok (.invokestatic 94, 3) := by decide +kernel
theorem dX3_reachFromEdge_86 : decode cX3_reachFromEdge 86 = .ok (.invokevirtual 90, 3) := by decide +kernel
theorem dX3_reachFromEdge_89 : decode cX3_reachFromEdge 89 = .ok (.iinc 2 1, 3) := by decide +kernel
theorem dX3_reachFromEdge_92 : decode cX3_reachFromEdge 92 = .ok (.goto (-22), 3) := by decide +kernel
theorem dX3_reachFromEdge_95 : decode cX3_reachFromEdge 95 = .ok (.iinc 1 1, 3) := by decide +kernel
theorem dX3_reachFromEdge_98 : decode cX3_reachFromEdge 98 = .ok (.goto (-44), 3) := by decide +kernel
theorem dX3_reachFromEdge_101 : decode cX3_reachFromEdge 101 = .ok (.return_, 1) := by decide +kernel
set_option maxRecDepth 20000 in
theorem ggX3_reach_X4_isPixel : GoodIn wsX3_reach wsX4_isPixel := goodIn_r _ [7] (by decide +kernel) (by decide +kernel)
set_option maxRecDepth 20000 in
theorem gX3_reach_X4_isPixel_n97 : GoodIn wsX3_reach (wsX4_isPixel) := ggX3_reach_X4_isPixel
theorem dX3_reach_0 : decode cX3_reach 0 = .ok (.iload_n 1, 1) := by decide +kernel
theorem dX3_reach_1 : decode cX3_reach 1 = .ok (.invokestatic 97, 3) := by decide +kernel
theorem dX3_reach_4 : decode cX3_reach 4 = .ok (.ifCond .eq 59, 3) := by decide +kernel
theorem dX3_reach_7 : decode cX3_reach 7 = .ok (.aload_n 0, 1) := by decide +kernel
theorem dX3_reach_8 : decode cX3_reach 8 = .ok (.getfield 9, 3) := by decide +kernel
theorem dX3_reach_11 : decode cX3_reach 11 = .ok (.iload_n 1, 1) := by decide +kernel
theorem dX3_reach_12 : decode cX3_reach 12 = .ok (.iaload, 1) := by decide +kernel
theorem dX3_reach_13 : decode cX3_reach 13 = .ok (.bipush 16, 2) := by decide +kernel
theorem dX3_reach_15 : decode cX3_reach 15 = .ok (.if_icmp .ge 48, 3) := by decide +kernel
theorem dX3_reach_18 : decode cX3_reach 18 = .ok (.aload_n 0, 1) := by decide +kernel
theorem dX3_reach_19 : decode cX3_reach 19 = .ok (.getfield 33, 3) := by decide +kernel
theorem dX3_reach_22 : decode cX3_reach 22 = .ok (.iload_n 1, 1) := by decide +kernel
theorem dX3_reach_23 : decode cX3_reach 23 = .ok (.baload, 1) := by decide +kernel
theorem dX3_reach_24 : decode cX3_reach 24 = .ok (.ifCond .ne 39, 3) := by decide +kernel
theorem dX3_reach_27 : decode cX3_reach 27 = .ok (.aload_n 0, 1) := by decide +kernel
theorem dX3_reach_28 : decode cX3_reach 28 = .ok (.getfield 40, 3) := by decide +kernel
theorem dX3_reach_31 : decode cX3_reach 31 = .ok (.bipush 48, 2) := by decide +kernel
theorem dX3_reach_33 : decode cX3_reach 33 = .ok (.if_icmp .ge 30, 3) := by decide +kernel
theorem dX3_reach_36 : decode cX3_reach 36 = .ok (.aload_n 0, 1) := by decide +kernel
theorem dX3_reach_37 : decode cX3_reach 37 = .ok (.getfield 33, 3) := by decide +kernel
theorem dX3_reach_40 : decode cX3_reach 40 = .ok (.iload_n 1, 1) := by decide +kernel
theorem dX3_reach_41 : decode cX3_reach 41 = .ok (.iconst 1, 1) := by decide +kernel
theorem dX3_reach_42 : decode cX3_reach 42 = .ok (.bastore, 1) := by decide +kernel
theorem dX3_reach_43 : decode cX3_reach 43 = .ok (.aload_n 0, 1) := by decide +kernel
theorem dX3_reach_44 : decode cX3_reach 44 = .ok (.getfield 37, 3) := by decide +kernel
theorem dX3_reach_47 : decode cX3_reach 47 = .ok (.aload_n 0, 1) := by decide +kernel
theorem dX3_reach_48 : decode cX3_reach 48 = .ok (.getfield 40, 3) := by decide +kernel
theorem dX3_reach_51 : decode cX3_reach 51 = .ok (.iload_n 1, 1) := by decide +kernel
theorem dX3_reach_52 : decode cX3_reach 52 = .ok (.iastore, 1) := by decide +kernel
theorem dX3_reach_53 : decode cX3_reach 53 = .ok (.aload_n 0, 1) := by decide +kernel
theorem dX3_reach_54 : decode cX3_reach 54 = .ok (.dup, 1) := by decide +kernel
theorem dX3_reach_55 : decode cX3_reach 55 = .ok (.getfield 40, 3) := by decide +kernel
theorem dX3_reach_58 : decode cX3_reach 58 = .ok (.iconst 1, 1) := by decide +kernel
theorem dX3_reach_59 : decode cX3_reach 59 = .ok (.iadd, 1) := by decide +kernel
theorem dX3_reach_60 : decode cX3_reach 60 = .ok (.putfield 40, 3) := by decide +kernel
theorem dX3_reach_63 : decode cX3_reach 63 = .ok (.return_, 1) := by decide +kernel
set_option maxRecDepth 20000 in
theorem ggX3_findKinds_X3_unmarkedKind : GoodIn wsX3_findKinds wsX3_unmarkedKind := goodIn_r _ [7, 8, 9, 10, 11, 12, 13, 14, 6, 15, 16, 17, 18, 19, 20, 21, 22, 23, 24, 25, 26, 27] (by decide +kernel) (by decide +kernel)
set_option maxRecDepth 20000 in
theorem gX3_findKinds_X3_unmarkedKind : GoodIn wsX3_findKinds (wsV RX3 100 RX3 yX3_unmarkedKind wsX3_unmarkedKind) := goodIn_app (goodIn_of _ (by decide +kernel)) ggX3_findKinds_X3_unmarkedKind
theorem dX3_findKinds_0 : decode cX3_findKinds 0 = .ok (.iconst 0, 1) := by decide +kernel
theorem dX3_findKinds_1 : decode cX3_findKinds 1 = .ok (.istore_n 2, 1) := by decide +kernel
theorem dX3_findKinds_2 : decode cX3_findKinds 2 = .ok (.iload_n 2, 1) := by decide +kernel
theorem dX3_findKinds_3 : decode cX3_findKinds 3 = .ok (.bipush 48, 2) := by decide +kernel
theorem dX3_findKinds_5 : decode cX3_findKinds 5 = .ok (.if_icmp .ge 33, 3) := by decide +kernel
theorem dX3_findKinds_8 : decode cX3_findKinds 8 = .ok (.aload_n 0, 1) := by decide +kernel
theorem dX3_findKinds_9 : decode cX3_findKinds 9 = .ok (.getfield 18, 3) := by decide +kernel
theorem dX3_findKinds_12 : decode cX3_findKinds 12 = .ok (.iload_n 2, 1) := by decide +kernel
theorem dX3_findKinds_13 : decode cX3_findKinds 13 = .ok (.aload_n 1, 1) := by decide +kernel
theorem dX3_findKinds_14 : decode cX3_findKinds 14 = .ok (.getfield 54, 3) := by decide +kernel
theorem dX3_findKinds_17 : decode cX3_findKinds 17 = .ok (.iload_n 2, 1) := by decide +kernel
theorem dX3_findKinds_18 : decode cX3_findKinds 18 = .ok (.baload, 1) := by decide +kernel
theorem dX3_findKinds_19 : decode cX3_findKinds 19 = .ok (.ifCond .eq 7, 3) := by decide +kernel
theorem dX3_findKinds_22 : decode cX3_findKinds 22 = .ok (.iconst 4, 1) := by decide +kernel
theorem dX3_findKinds_23 : decode cX3_findKinds 23 = .ok (.goto 8, 3) := by decide +kernel
theorem dX3_findKinds_26 : decode cX3_findKinds 26 = .ok (.aload_n 0, 1) := by decide +kernel
theorem dX3_findKinds_27 : decode cX3_findKinds 27 = .ok (.iload_n 2, 1) := by decide +kernel
theorem dX3_findKinds_28 : decode cX3_findKinds 28 = .ok (.invokevirtual 100, 3) := by decide +kernel
theorem dX3_findKinds_31 : decode cX3_findKinds 31 = .ok (.iastore, 1) := by decide +kernel
theorem dX3_findKinds_32 : decode cX3_findKinds 32 = .ok (.iinc 2 1, 3) := by decide +kernel
theorem dX3_findKinds_35 : decode cX3_findKinds 35 = .ok (.goto (-33), 3) := by decide +kernel
theorem dX3_findKinds_38 : decode cX3_findKinds 38 = .ok (.return_, 1) := by decide +kernel
set_option maxRecDepth 20000 in
theorem ggX3_unmarkedKind_X4_isPixel : GoodIn wsX3_unmarkedKind wsX4_isPixel := goodIn_r _ [4] (by decide +kernel) (by decide +kernel)
set_option maxRecDepth 20000 in
theorem gX3_unmarkedKind_X4_isPixel_n97 : GoodIn wsX3_unmarkedKind (wsX4_isPixel) := ggX3_unmarkedKind_X4_isPixel
set_option maxRecDepth 20000 in
theorem ggX3_unmarkedKind_X3_isOneBeside : GoodIn wsX3_unmarkedKind wsX3_isOneBeside := goodIn_r _ [9, 1, 10, 3, 11, 2, 4, 12, 13, 14, 15, 16, 17, 18, 19, 20, 21] (by decide +kernel) (by decide +kernel)
set_option maxRecDepth 20000 in
theorem gX3_unmarkedKind_X3_isOneBeside : GoodIn wsX3_unmarkedKind (wsV RX3 103 RX3 yX3_isOneBeside wsX3_isOneBeside) := goodIn_app (goodIn_of _ (by decide +kernel)) ggX3_unmarkedKind_X3_isOneBeside
theorem dX3_unmarkedKind_0 : decode cX3_unmarkedKind 0 = .ok (.iload_n 1, 1) := by decide +kernel
theorem dX3_unmarkedKind_1 : decode cX3_unmarkedKind 1 = .ok (.invokestatic 97, 3) := by decide +kernel
theorem dX3_unmarkedKind_4 : decode cX3_unmarkedKind 4 = .ok (.ifCond .ne 5, 3) := by decide +kernel
theorem dX3_unmarkedKind_7 : decode cX3_unmarkedKind 7 = .ok (.iconst (-1), 1) := by decide +kernel
theorem dX3_unmarkedKind_8 : decode cX3_unmarkedKind 8 = .ok (.ireturn, 1) := by decide +kernel
theorem dX3_unmarkedKind_9 : decode cX3_unmarkedKind 9 = .ok (.aload_n 0, 1) := by decide +kernel
theorem dX3_unmarkedKind_10 : decode cX3_unmarkedKind 10 = .ok (.getfield 15, 3) := by decide +kernel
theorem dX3_unmarkedKind_13 : decode cX3_unmarkedKind 13 = .ok (.iload_n 1, 1) := by decide +kernel
theorem dX3_unmarkedKind_14 : decode cX3_unmarkedKind 14 = .ok (.iaload, 1) := by decide +kernel
theorem dX3_unmarkedKind_15 : decode cX3_unmarkedKind 15 = .ok (.ifCond .ne 5, 3) := by decide +kernel
theorem dX3_unmarkedKind_18 : decode cX3_unmarkedKind 18 = .ok (.iconst 0, 1) := by decide +kernel
theorem dX3_unmarkedKind_19 : decode cX3_unmarkedKind 19 = .ok (.ireturn, 1) := by decide +kernel
theorem dX3_unmarkedKind_20 : decode cX3_unmarkedKind 20 = .ok (.aload_n 0, 1) := by decide +kernel
theorem dX3_unmarkedKind_21 : decode cX3_unmarkedKind 21 = .ok (.getfield 15, 3) := by decide +kernel
theorem dX3_unmarkedKind_24 : decode cX3_unmarkedKind 24 = .ok (.iload_n 1, 1) := by decide +kernel
theorem dX3_unmarkedKind_25 : decode cX3_unmarkedKind 25 = .ok (.iaload, 1) := by decide +kernel
theorem dX3_unmarkedKind_26 : decode cX3_unmarkedKind 26 = .ok (.bipush 16, 2) := by decide +kernel
theorem dX3_unmarkedKind_28 : decode cX3_unmarkedKind 28 = .ok (.if_icmp .ne 5, 3) := by decide +kernel
theorem dX3_unmarkedKind_31 : decode cX3_unmarkedKind 31 = .ok (.iconst 3, 1) := by decide +kernel
theorem dX3_unmarkedKind_32 : decode cX3_unmarkedKind 32 = .ok (.ireturn, 1) := by decide +kernel
theorem dX3_unmarkedKind_33 : decode cX3_unmarkedKind 33 = .ok (.aload_n 0, 1) := by decide +kernel
theorem dX3_unmarkedKind_34 : decode cX3_unmarkedKind 34 = .ok (.iload_n 1, 1) := by decide +kernel
theorem dX3_unmarkedKind_35 : decode cX3_unmarkedKind 35 = .ok (.bipush 16, 2) := by decide +kernel
theorem dX3_unmarkedKind_37 : decode cX3_unmarkedKind 37 = .ok (.invokevirtual 103, 3) := by decide +kernel
theorem dX3_unmarkedKind_40 : decode cX3_unmarkedKind 40 = .ok (.ifCond .eq 16, 3) := by decide +kernel
theorem dX3_unmarkedKind_43 : decode cX3_unmarkedKind 43 = .ok (.aload_n 0, 1) := by decide +kernel
theorem dX3_unmarkedKind_44 : decode cX3_unmarkedKind 44 = .ok (.iload_n 1, 1) := by decide +kernel
theorem dX3_unmarkedKind_45 : decode cX3_unmarkedKind 45 = .ok (.iconst 0, 1) := by decide +kernel
theorem dX3_unmarkedKind_46 : decode cX3_unmarkedKind 46 = .ok (.invokevirtual 103, 3) := by decide +kernel
theorem dX3_unmarkedKind_49 : decode cX3_unmarkedKind 49 = .ok (.ifCond .eq 7, 3) := by decide +kernel
theorem dX3_unmarkedKind_52 : decode cX3_unmarkedKind 52 = .ok (.iconst 2, 1) := by decide +kernel
theorem dX3_unmarkedKind_53 : decode cX3_unmarkedKind 53 = .ok (.goto 4, 3) := by decide +kernel
theorem dX3_unmarkedKind_56 : decode cX3_unmarkedKind 56 = .ok (.iconst 1, 1) := by decide +kernel
theorem dX3_unmarkedKind_57 : decode cX3_unmarkedKind 57 = .ok (.ireturn, 1) := by decide +kernel
set_option maxRecDepth 20000 in
theorem ggX3_isOneBeside_X4_beside : GoodIn wsX3_isOneBeside wsX4_beside := goodIn_r _ [4] (by decide +kernel) (by decide +kernel)
set_option maxRecDepth 20000 in
theorem gX3_isOneBeside_X4_beside_n94 : GoodIn wsX3_isOneBeside (wsX4_beside) := ggX3_isOneBeside_X4_beside
set_option maxRecDepth 20000 in
theorem ggX3_isOneBeside_X4_isPixel : GoodIn wsX3_isOneBeside wsX4_isPixel := goodIn_r _ [6] (by decide +kernel) (by decide +kernel)
set_option maxRecDepth 20000 in
theorem gX3_isOneBeside_X4_isPixel_n97 : GoodIn wsX3_isOneBeside (wsX4_isPixel) := ggX3_isOneBeside_X4_isPixel
theorem dX3_isOneBeside_0 : decode cX3_isOneBeside 0 = .ok (.iconst 0, 1) := by decide +kernel
theorem dX3_isOneBeside_1 : decode cX3_isOneBeside 1 = .ok (.istore_n 3, 1) := by decide +kernel
theorem dX3_isOneBeside_2 : decode cX3_isOneBeside 2 = .ok (.iload_n 3, 1) := by decide +kernel
theorem dX3_isOneBeside_3 : decode cX3_isOneBeside 3 = .ok (.iconst 4, 1) := by decide +kernel
theorem dX3_isOneBeside_4 : decode cX3_isOneBeside 4 = .ok (.if_icmp .ge 37, 3) := by decide +kernel
theorem dX3_isOneBeside_7 : decode cX3_isOneBeside 7 = .ok (.iload_n 1, 1) := by decide +kernel
theorem dX3_isOneBeside_8 : decode cX3_isOneBeside 8 = .ok (.iload_n 3, 1) := by decide +kernel
theorem dX3_isOneBeside_9 : decode cX3_isOneBeside 9 = .ok (.invokestatic 94, 3) := by decide +kernel
theorem dX3_isOneBeside_12 : decode cX3_isOneBeside 12 = .ok (.istore 4, 2) := by decide +kernel
theorem dX3_isOneBeside_14 : decode cX3_isOneBeside 14 = .ok (.iload 4, 2) := by decide +kernel
theorem dX3_isOneBeside_16 : decode cX3_isOneBeside 16 = .ok (.invokestatic 97, 3) := by decide +kernel
theorem dX3_isOneBeside_19 : decode cX3_isOneBeside 19 = .ok (.ifCond .eq 16, 3) := by decide +kernel
theorem dX3_isOneBeside_22 : decode cX3_isOneBeside 22 = .ok (.aload_n 0, 1) := by decide +kernel
theorem dX3_isOneBeside_23 : decode cX3_isOneBeside 23 = .ok (.getfield 15, 3) := by decide +kernel
theorem dX3_isOneBeside_26 : decode cX3_isOneBeside 26 = .ok (.iload 4, 2) := by decide +kernel
theorem dX3_isOneBeside_28 : decode cX3_isOneBeside 28 = .ok (.iaload, 1) := by decide +kernel
theorem dX3_isOneBeside_29 : decode cX3_isOneBeside 29 = .ok (.iload_n 2, 1) := by decide +kernel
theorem dX3_isOneBeside_30 : decode cX3_isOneBeside 30 = .ok (.if_icmp .ne 5, 3) := by decide +kernel
theorem dX3_isOneBeside_33 : decode cX3_isOneBeside 33 = .ok (.iconst 1, 1) := by decide +kernel
theorem dX3_isOneBeside_34 : decode cX3_isOneBeside 34 = .ok (.ireturn, 1) := by decide +kernel
theorem dX3_isOneBeside_35 : decode cX3_isOneBeside 35 = .ok (.iinc 3 1, 3) := by decide +kernel
theorem dX3_isOneBeside_38 : decode cX3_isOneBeside 38 = .ok (.goto (-36), 3) := by decide +kernel
theorem dX3_isOneBeside_41 : decode cX3_isOneBeside 41 = .ok (.iconst 0, 1) := by decide +kernel
theorem dX3_isOneBeside_42 : decode cX3_isOneBeside 42 = .ok (.ireturn, 1) := by decide +kernel
set_option maxRecDepth 20000 in
theorem ggX3_compose_X4_mainPart : GoodIn wsX3_compose wsX4_mainPart := goodIn_r _ [12, 13, 14, 11, 15, 16, 17, 18] (by decide +kernel) (by decide +kernel)
set_option maxRecDepth 20000 in
theorem gX3_compose_X4_mainPart_n62 : GoodIn wsX3_compose (wsX4_mainPart) := ggX3_compose_X4_mainPart
set_option maxRecDepth 20000 in
theorem ggX3_compose_X4_spillIn : GoodIn wsX3_compose wsX4_spillIn := goodIn_r _ [20, 21, 22, 23, 24, 13, 14, 11, 15, 16, 17, 18] (by decide +kernel) (by decide +kernel)
set_option maxRecDepth 20000 in
theorem gX3_compose_X4_spillIn_n66 : GoodIn wsX3_compose (wsX4_spillIn) := ggX3_compose_X4_spillIn
set_option maxRecDepth 20000 in
theorem ggX3_compose_X3_share : GoodIn wsX3_compose wsX3_share := goodIn_r _ [28, 29, 32, 33, 34, 35, 36] (by decide +kernel) (by decide +kernel)
set_option maxRecDepth 20000 in
theorem gX3_compose_X3_share : GoodIn wsX3_compose (va_wsS RX3 110 yX3_share wsX3_share) := goodIn_app (goodIn_of _ (by decide +kernel)) ggX3_compose_X3_share
set_option maxRecDepth 20000 in
theorem ggX3_compose_X4_partShift : GoodIn wsX3_compose wsX4_partShift := goodIn_r _ [18] (by decide +kernel) (by decide +kernel)
set_option maxRecDepth 20000 in
theorem gX3_compose_X4_partShift_n114 : GoodIn wsX3_compose (wsX4_partShift) := ggX3_compose_X4_partShift
set_option maxRecDepth 20000 in
theorem ggX3_compose_X4_composedColour : GoodIn wsX3_compose wsX4_composedColour := goodIn_r _ [31, 13, 14, 11, 15, 16, 17, 18] (by decide +kernel) (by decide +kernel)
set_option maxRecDepth 20000 in
theorem gX3_compose_X4_composedColour_n120 : GoodIn wsX3_compose (wsX4_composedColour) := ggX3_compose_X4_composedColour
theorem dX3_compose_0 : decode cX3_compose 0 = .ok (.aload_n 1, 1) := by decide +kernel
theorem dX3_compose_1 : decode cX3_compose 1 = .ok (.getfield 59, 3) := by decide +kernel
theorem dX3_compose_4 : decode cX3_compose 4 = .ok (.invokestatic 62, 3) := by decide +kernel
theorem dX3_compose_7 : decode cX3_compose 7 = .ok (.istore_n 2, 1) := by decide +kernel
theorem dX3_compose_8 : decode cX3_compose 8 = .ok (.iconst 0, 1) := by decide +kernel
theorem dX3_compose_9 : decode cX3_compose 9 = .ok (.istore_n 3, 1) := by decide +kernel
theorem dX3_compose_10 : decode cX3_compose 10 = .ok (.iload_n 3, 1) := by decide +kernel
theorem dX3_compose_11 : decode cX3_compose 11 = .ok (.bipush 48, 2) := by decide +kernel
theorem dX3_compose_13 : decode cX3_compose 13 = .ok (.if_icmp .ge 102, 3) := by decide +kernel
theorem dX3_compose_16 : decode cX3_compose 16 = .ok (.aload_n 0, 1) := by decide +kernel
theorem dX3_compose_17 : decode cX3_compose 17 = .ok (.getfield 21, 3) := by decide +kernel
theorem dX3_compose_20 : decode cX3_compose 20 = .ok (.iload_n 3, 1) := by decide +kernel
theorem dX3_compose_21 : decode cX3_compose 21 = .ok (.aload_n 1, 1) := by decide +kernel
theorem dX3_compose_22 : decode cX3_compose 22 = .ok (.getfield 107, 3) := by decide +kernel
theorem dX3_compose_25 : decode cX3_compose 25 = .ok (.iload_n 3, 1) := by decide +kernel
theorem dX3_compose_26 : decode cX3_compose 26 = .ok (.iaload, 1) := by decide +kernel
theorem dX3_compose_27 : decode cX3_compose 27 = .ok (.iload_n 2, 1) := by decide +kernel
theorem dX3_compose_28 : decode cX3_compose 28 = .ok (.invokestatic 66, 3) := by decide +kernel
theorem dX3_compose_31 : decode cX3_compose 31 = .ok (.iastore, 1) := by decide +kernel
theorem dX3_compose_32 : decode cX3_compose 32 = .ok (.aload_n 0, 1) := by decide +kernel
theorem dX3_compose_33 : decode cX3_compose 33 = .ok (.getfield 24, 3) := by decide +kernel
theorem dX3_compose_36 : decode cX3_compose 36 = .ok (.iload_n 3, 1) := by decide +kernel
theorem dX3_compose_37 : decode cX3_compose 37 = .ok (.aload_n 0, 1) := by decide +kernel
theorem dX3_compose_38 : decode cX3_compose 38 = .ok (.getfield 21, 3) := by decide +kernel
theorem dX3_compose_41 : decode cX3_compose 41 = .ok (.iload_n 3, 1) := by decide +kernel
theorem dX3_compose_42 : decode cX3_compose 42 = .ok (.iaload, 1) := by decide +kernel
theorem dX3_compose_43 : decode cX3_compose 43 = .ok (.aload_n 1, 1) := by decide +kernel
theorem dX3_compose_44 : decode cX3_compose 44 = .ok (.aload_n 0, 1) := by decide +kernel
theorem dX3_compose_45 : decode cX3_compose 45 = .ok (.getfield 18, 3) := by decide +kernel
theorem dX3_compose_48 : decode cX3_compose 48 = .ok (.iload_n 3, 1) := by decide +kernel
theorem dX3_compose_49 : decode cX3_compose 49 = .ok (.iaload, 1) := by decide +kernel
theorem dX3_compose_50 : decode cX3_compose 50 = .ok (.invokestatic 110, 3) := by decide +kernel
theorem dX3_compose_53 : decode cX3_compose 53 = .ok (.imul, 1) := by decide +kernel
theorem dX3_compose_54 : decode cX3_compose 54 = .ok (.bipush 16, 2) := by decide +kernel
theorem dX3_compose_56 : decode cX3_compose 56 = .ok (.idiv, 1) := by decide +kernel
theorem dX3_compose_57 : decode cX3_compose 57 = .ok (.iastore, 1) := by decide +kernel
theorem dX3_compose_58 : decode cX3_compose 58 = .ok (.aload_n 0, 1) := by decide +kernel
theorem dX3_compose_59 : decode cX3_compose 59 = .ok (.getfield 27, 3) := by decide +kernel
theorem dX3_compose_62 : decode cX3_compose 62 = .ok (.iload_n 3, 1) := by decide +kernel
theorem dX3_compose_63 : decode cX3_compose 63 = .ok (.aload_n 1, 1) := by decide +kernel
theorem dX3_compose_64 : decode cX3_compose 64 = .ok (.getfield 107, 3) := by decide +kernel
theorem dX3_compose_67 : decode cX3_compose 67 = .ok (.iload_n 3, 1) := by decide +kernel
theorem dX3_compose_68 : decode cX3_compose 68 = .ok (.iaload, 1) := by decide +kernel
theorem dX3_compose_69 : decode cX3_compose 69 = .ok (.aload_n 0, 1) := by decide +kernel
theorem dX3_compose_70 : decode cX3_compose 70 = .ok (.getfield 24, 3) := by decide +kernel
theorem dX3_compose_73 : decode cX3_compose 73 = .ok (.iload_n 3, 1) := by decide +kernel
theorem dX3_compose_74 : decode cX3_compose 74 = .ok (.iaload, 1) := by decide +kernel
theorem dX3_compose_75 : decode cX3_compose 75 = .ok (.iload_n 2, 1) := by decide +kernel
theorem dX3_compose_76 : decode cX3_compose 76 = .ok (.invokestatic 114, 3) := by decide +kernel
theorem dX3_compose_79 : decode cX3_compose 79 = .ok (.ishl, 1) := by decide +kernel
theorem dX3_compose_80 : decode cX3_compose 80 = .ok (.isub, 1) := by decide +kernel
theorem dX3_compose_81 : decode cX3_compose 81 = .ok (.iastore, 1) := by decide +kernel
theorem dX3_compose_82 : decode cX3_compose 82 = .ok (.aload_n 0, 1) := by decide +kernel
theorem dX3_compose_83 : decode cX3_compose 83 = .ok (.getfield 30, 3) := by decide +kernel
theorem dX3_compose_86 : decode cX3_compose 86 = .ok (.iload_n 3, 1) := by decide +kernel
theorem dX3_compose_87 : decode cX3_compose 87 = .ok (.aload_n 0, 1) := by decide +kernel
theorem dX3_compose_88 : decode cX3_compose 88 = .ok (.getfield 27, 3) := by decide +kernel
theorem dX3_compose_91 : decode cX3_compose 91 = .ok (.iload_n 3, 1) := by decide +kernel
theorem dX3_compose_92 : decode cX3_compose 92 = .ok (.iaload, 1) := by decide +kernel
theorem dX3_compose_93 : decode cX3_compose 93 = .ok (.aload_n 1, 1) := by decide +kernel
theorem dX3_compose_94 : decode cX3_compose 94 = .ok (.getfield 117, 3) := by decide +kernel
theorem dX3_compose_97 : decode cX3_compose 97 = .ok (.iload_n 3, 1) := by decide +kernel
theorem dX3_compose_98 : decode cX3_compose 98 = .ok (.iaload, 1) := by decide +kernel
theorem dX3_compose_99 : decode cX3_compose 99 = .ok (.aload_n 0, 1) := by decide +kernel
theorem dX3_compose_100 : decode cX3_compose 100 = .ok (.getfield 15, 3) := by decide +kernel
theorem dX3_compose_103 : decode cX3_compose 103 = .ok (.iload_n 3, 1) := by decide +kernel
theorem dX3_compose_104 : decode cX3_compose 104 = .ok (.iaload, 1) := by decide +kernel
theorem dX3_compose_105 : decode cX3_compose 105 = .ok (.invokestatic 120, 3) := by decide +kernel
theorem dX3_compose_108 : decode cX3_compose 108 = .ok (.iastore, 1) := by decide +kernel
theorem dX3_compose_109 : decode cX3_compose 109 = .ok (.iinc 3 1, 3) := by decide +kernel
theorem dX3_compose_112 : decode cX3_compose 112 = .ok (.goto (-102), 3) := by decide +kernel
theorem dX3_compose_115 : decode cX3_compose 115 = .ok (.return_, 1) := by decide +kernel
theorem dX3_share_0 : decode cX3_share 0 = .ok (.iload_n 1, 1) := by decide +kernel
theorem dX3_share_1 : decode cX3_share 1 = .ok (.tableswitch 52 1 4 #[31, 38, 31, 45], 31) := by decide +kernel
theorem dX3_share_32 : decode cX3_share 32 = .ok (.aload_n 0, 1) := by decide +kernel
theorem dX3_share_33 : decode cX3_share 33 = .ok (.getfield 70, 3) := by decide +kernel
theorem dX3_share_36 : decode cX3_share 36 = .ok (.iconst 2, 1) := by decide +kernel
theorem dX3_share_37 : decode cX3_share 37 = .ok (.iaload, 1) := by decide +kernel
theorem dX3_share_38 : decode cX3_share 38 = .ok (.ireturn, 1) := by decide +kernel
theorem dX3_share_39 : decode cX3_share 39 = .ok (.aload_n 0, 1) := by decide +kernel
theorem dX3_share_40 : decode cX3_share 40 = .ok (.getfield 70, 3) := by decide +kernel
theorem dX3_share_43 : decode cX3_share 43 = .ok (.iconst 3, 1) := by decide +kernel
theorem dX3_share_44 : decode cX3_share 44 = .ok (.iaload, 1) := by decide +kernel
theorem dX3_share_45 : decode cX3_share 45 = .ok (.ireturn, 1) := by decide +kernel
theorem dX3_share_46 : decode cX3_share 46 = .ok (.aload_n 0, 1) := by decide +kernel
theorem dX3_share_47 : decode cX3_share 47 = .ok (.getfield 70, 3) := by decide +kernel
theorem dX3_share_50 : decode cX3_share 50 = .ok (.iconst 4, 1) := by decide +kernel
theorem dX3_share_51 : decode cX3_share 51 = .ok (.iaload, 1) := by decide +kernel
theorem dX3_share_52 : decode cX3_share 52 = .ok (.ireturn, 1) := by decide +kernel
theorem dX3_share_53 : decode cX3_share 53 = .ok (.iconst 0, 1) := by decide +kernel
theorem dX3_share_54 : decode cX3_share 54 = .ok (.ireturn, 1) := by decide +kernel
set_option maxRecDepth 20000 in
theorem ggX4_init_X2_init : GoodIn wsX4_init wsX2_init := goodIn_r _ [25, 26, 2, 3, 27, 28, 29, 30, 31, 32, 33, 34, 35, 36, 37, 65, 66, 67, 68, 69] (by decide +kernel) (by decide +kernel)
set_option maxRecDepth 20000 in
theorem gX4_init_X2_init : GoodIn wsX4_init (wsX2_init) := ggX4_init_X2_init
set_option maxRecDepth 20000 in
theorem ggX4_init_X3_init : GoodIn wsX4_init wsX3_init := goodIn_r _ [39, 40, 2, 3, 27, 41, 42, 43, 44, 45, 46, 47, 31, 48, 49, 50, 77, 78, 79, 80, 81, 82, 83, 84, 85, 86] (by decide +kernel) (by decide +kernel)
set_option maxRecDepth 20000 in
theorem gX4_init_X3_init_n21 : GoodIn wsX4_init (wsX3_init) := ggX4_init_X3_init
set_option maxRecDepth 20000 in
theorem ggX4_init_X1_init : GoodIn wsX4_init wsX1_init := goodIn_r _ [52, 53, 2, 3, 27, 54, 55, 87, 88] (by decide +kernel) (by decide +kernel)
set_option maxRecDepth 20000 in
theorem gX4_init_X1_init_n31 : GoodIn wsX4_init (wsX1_init) := ggX4_init_X1_init
set_option maxRecDepth 20000 in
theorem ggX4_init_X0_init : GoodIn wsX4_init wsX0_init := goodIn_r _ [58, 59, 2, 3, 60, 61, 62, 63, 5, 6, 64, 24, 25, 26, 27, 28, 29, 30, 31, 32, 33, 34, 35, 36, 37, 89, 90, 91, 65, 66, 67, 68, 69] (by decide +kernel) (by decide +kernel)
set_option maxRecDepth 20000 in
theorem gX4_init_X0_init : GoodIn wsX4_init (wsX0_init) := ggX4_init_X0_init
theorem dX4_init_0 : decode cX4_init 0 = .ok (.aload_n 0, 1) := by decide +kernel
theorem dX4_init_1 : decode cX4_init 1 = .ok (.invokespecial 1, 3) := by decide +kernel
theorem dX4_init_4 : decode cX4_init 4 = .ok (.aload_n 0, 1) := by decide +kernel
theorem dX4_init_5 : decode cX4_init 5 = .ok (.new 7, 3) := by decide +kernel
theorem dX4_init_8 : decode cX4_init 8 = .ok (.dup, 1) := by decide +kernel
theorem dX4_init_9 : decode cX4_init 9 = .ok (.invokespecial 9, 3) := by decide +kernel
theorem dX4_init_12 : decode cX4_init 12 = .ok (.putfield 10, 3) := by decide +kernel
theorem dX4_init_15 : decode cX4_init 15 = .ok (.aload_n 0, 1) := by decide +kernel
theorem dX4_init_16 : decode cX4_init 16 = .ok (.new 7, 3) := by decide +kernel
theorem dX4_init_19 : decode cX4_init 19 = .ok (.dup, 1) := by decide +kernel
theorem dX4_init_20 : decode cX4_init 20 = .ok (.invokespecial 9, 3) := by decide +kernel
theorem dX4_init_23 : decode cX4_init 23 = .ok (.putfield 16, 3) := by decide +kernel
theorem dX4_init_26 : decode cX4_init 26 = .ok (.aload_n 0, 1) := by decide +kernel
theorem dX4_init_27 : decode cX4_init 27 = .ok (.new 19, 3) := by decide +kernel
theorem dX4_init_30 : decode cX4_init 30 = .ok (.dup, 1) := by decide +kernel
theorem dX4_init_31 : decode cX4_init 31 = .ok (.invokespecial 21, 3) := by decide +kernel
theorem dX4_init_34 : decode cX4_init 34 = .ok (.putfield 22, 3) := by decide +kernel
theorem dX4_init_37 : decode cX4_init 37 = .ok (.aload_n 0, 1) := by decide +kernel
theorem dX4_init_38 : decode cX4_init 38 = .ok (.new 19, 3) := by decide +kernel
theorem dX4_init_41 : decode cX4_init 41 = .ok (.dup, 1) := by decide +kernel
theorem dX4_init_42 : decode cX4_init 42 = .ok (.invokespecial 21, 3) := by decide +kernel
theorem dX4_init_45 : decode cX4_init 45 = .ok (.putfield 26, 3) := by decide +kernel
theorem dX4_init_48 : decode cX4_init 48 = .ok (.aload_n 0, 1) := by decide +kernel
theorem dX4_init_49 : decode cX4_init 49 = .ok (.new 29, 3) := by decide +kernel
theorem dX4_init_52 : decode cX4_init 52 = .ok (.dup, 1) := by decide +kernel
theorem dX4_init_53 : decode cX4_init 53 = .ok (.invokespecial 31, 3) := by decide +kernel
theorem dX4_init_56 : decode cX4_init 56 = .ok (.putfield 32, 3) := by decide +kernel
theorem dX4_init_59 : decode cX4_init 59 = .ok (.aload_n 0, 1) := by decide +kernel
theorem dX4_init_60 : decode cX4_init 60 = .ok (.new 36, 3) := by decide +kernel
theorem dX4_init_63 : decode cX4_init 63 = .ok (.dup, 1) := by decide +kernel
theorem dX4_init_64 : decode cX4_init 64 = .ok (.invokespecial 38, 3) := by decide +kernel
theorem dX4_init_67 : decode cX4_init 67 = .ok (.putfield 39, 3) := by decide +kernel
theorem dX4_init_70 : decode cX4_init 70 = .ok (.aload_n 0, 1) := by decide +kernel
theorem dX4_init_71 : decode cX4_init 71 = .ok (.iconst 2, 1) := by decide +kernel
theorem dX4_init_72 : decode cX4_init 72 = .ok (.anewarray 7, 3) := by decide +kernel
theorem dX4_init_75 : decode cX4_init 75 = .ok (.putfield 43, 3) := by decide +kernel
theorem dX4_init_78 : decode cX4_init 78 = .ok (.return_, 1) := by decide +kernel
set_option maxRecDepth 20000 in
theorem ggX4_set_X4_errorOfSetting : GoodIn wsX4_set wsX4_errorOfSetting := goodIn_r _ [7, 8, 2, 9, 10, 11, 6, 12, 43, 44, 45, 46, 47, 48, 49, 50, 51, 52, 53, 54] (by decide +kernel) (by decide +kernel)
set_option maxRecDepth 20000 in
theorem gX4_set_X4_errorOfSetting : GoodIn wsX4_set (wsV RX4 47 RX4 yX4_errorOfSetting wsX4_errorOfSetting) := goodIn_app (goodIn_of _ (by decide +kernel)) ggX4_set_X4_errorOfSetting
set_option maxRecDepth 20000 in
theorem ggX4_set_X0_remember : GoodIn wsX4_set wsX0_remember := goodIn_r _ [17, 18, 19, 20, 21, 22, 23, 24, 25, 26, 27, 28, 29, 30, 31, 32, 33, 34, 35, 36, 37, 38, 55, 56, 57, 50, 51, 52, 53, 54] (by decide +kernel) (by decide +kernel)
set_option maxRecDepth 20000 in
theorem gX4_set_X0_remember : GoodIn wsX4_set (wsV RX4 51 RX0 yX0_remember wsX0_remember) := goodIn_app (goodIn_of _ (by decide +kernel)) ggX4_set_X0_remember
set_option maxRecDepth 20000 in
theorem ggX4_set_X2_changeSetting : GoodIn wsX4_set wsX2_changeSetting := goodIn_r _ [42, 30, 11, 6, 12, 50, 51, 52, 53, 54] (by decide +kernel) (by decide +kernel)
set_option maxRecDepth 20000 in
theorem gX4_set_X2_changeSetting : GoodIn wsX4_set (wsV RX4 55 RX2 yX2_changeSetting wsX2_changeSetting) := goodIn_app (goodIn_of _ (by decide +kernel)) ggX4_set_X2_changeSetting
theorem dX4_set_0 : decode cX4_set 0 = .ok (.aload_n 0, 1) := by decide +kernel
theorem dX4_set_1 : decode cX4_set 1 = .ok (.iload_n 1, 1) := by decide +kernel
theorem dX4_set_2 : decode cX4_set 2 = .ok (.iload_n 2, 1) := by decide +kernel
theorem dX4_set_3 : decode cX4_set 3 = .ok (.invokevirtual 47, 3) := by decide +kernel
theorem dX4_set_6 : decode cX4_set 6 = .ok (.istore_n 3, 1) := by decide +kernel
theorem dX4_set_7 : decode cX4_set 7 = .ok (.iload_n 3, 1) := by decide +kernel
theorem dX4_set_8 : decode cX4_set 8 = .ok (.ifCond .eq 5, 3) := by decide +kernel
theorem dX4_set_11 : decode cX4_set 11 = .ok (.iload_n 3, 1) := by decide +kernel
theorem dX4_set_12 : decode cX4_set 12 = .ok (.ireturn, 1) := by decide +kernel
theorem dX4_set_13 : decode cX4_set 13 = .ok (.aload_n 0, 1) := by decide +kernel
theorem dX4_set_14 : decode cX4_set 14 = .ok (.getfield 39, 3) := by decide +kernel
theorem dX4_set_17 : decode cX4_set 17 = .ok (.aload_n 0, 1) := by decide +kernel
theorem dX4_set_18 : decode cX4_set 18 = .ok (.getfield 10, 3) := by decide +kernel
theorem dX4_set_21 : decode cX4_set 21 = .ok (.invokevirtual 51, 3) := by decide +kernel
theorem dX4_set_24 : decode cX4_set 24 = .ok (.aload_n 0, 1) := by decide +kernel
theorem dX4_set_25 : decode cX4_set 25 = .ok (.getfield 10, 3) := by decide +kernel
theorem dX4_set_28 : decode cX4_set 28 = .ok (.iload_n 1, 1) := by decide +kernel
theorem dX4_set_29 : decode cX4_set 29 = .ok (.iload_n 2, 1) := by decide +kernel
theorem dX4_set_30 : decode cX4_set 30 = .ok (.invokevirtual 55, 3) := by decide +kernel
theorem dX4_set_33 : decode cX4_set 33 = .ok (.ireturn, 1) := by decide +kernel
set_option maxRecDepth 20000 in
theorem ggX4_screen_X4_isColour : GoodIn wsX4_screen wsX4_isColour := goodIn_r _ [7] (by decide +kernel) (by decide +kernel)
set_option maxRecDepth 20000 in
theorem gX4_screen_X4_isColour : GoodIn wsX4_screen (va_wsS RX4 58 yX4_isColour wsX4_isColour) := goodIn_app (goodIn_of _ (by decide +kernel)) ggX4_screen_X4_isColour
set_option maxRecDepth 20000 in
theorem ggX4_screen_X0_remember : GoodIn wsX4_screen wsX0_remember := goodIn_r _ [12, 13, 14, 15, 16, 17, 18, 19, 20, 21, 22, 23, 24, 25, 26, 27, 28, 29, 30, 31, 32, 33, 46, 47, 48, 41, 42, 43, 44, 45] (by decide +kernel) (by decide +kernel)
set_option maxRecDepth 20000 in
theorem gX4_screen_X0_remember : GoodIn wsX4_screen (wsV RX4 51 RX0 yX0_remember wsX0_remember) := goodIn_app (goodIn_of _ (by decide +kernel)) ggX4_screen_X0_remember
theorem dX4_screen_0 : decode cX4_screen 0 = .ok (.iload_n 1, 1) := by decide +kernel
theorem dX4_screen_1 : decode cX4_screen 1 = .ok (.invokestatic 58, 3) := by decide +kernel
theorem dX4_screen_4 : decode cX4_screen 4 = .ok (.ifCond .ne 6, 3) := by decide +kernel
theorem dX4_screen_7 : decode cX4_screen 7 = .ok (.bipush (-2), 2) := by decide +kernel
theorem dX4_screen_9 : decode cX4_screen 9 = .ok (.ireturn, 1) := by decide +kernel
theorem dX4_screen_10 : decode cX4_screen 10 = .ok (.aload_n 0, 1) := by decide +kernel
theorem dX4_screen_11 : decode cX4_screen 11 = .ok (.getfield 39, 3) := by decide +kernel
theorem dX4_screen_14 : decode cX4_screen 14 = .ok (.aload_n 0, 1) := by decide +kernel
theorem dX4_screen_15 : decode cX4_screen 15 = .ok (.getfield 10, 3) := by decide +kernel
theorem dX4_screen_18 : decode cX4_screen 18 = .ok (.invokevirtual 51, 3) := by decide +kernel
theorem dX4_screen_21 : decode cX4_screen 21 = .ok (.aload_n 0, 1) := by decide +kernel
theorem dX4_screen_22 : decode cX4_screen 22 = .ok (.getfield 10, 3) := by decide +kernel
theorem dX4_screen_25 : decode cX4_screen 25 = .ok (.getfield 62, 3) := by decide +kernel
theorem dX4_screen_28 : decode cX4_screen 28 = .ok (.istore_n 2, 1) := by decide +kernel
theorem dX4_screen_29 : decode cX4_screen 29 = .ok (.aload_n 0, 1) := by decide +kernel
theorem dX4_screen_30 : decode cX4_screen 30 = .ok (.getfield 10, 3) := by decide +kernel
theorem dX4_screen_33 : decode cX4_screen 33 = .ok (.iload_n 1, 1) := by decide +kernel
theorem dX4_screen_34 : decode cX4_screen 34 = .ok (.putfield 62, 3) := by decide +kernel
theorem dX4_screen_37 : decode cX4_screen 37 = .ok (.iload_n 2, 1) := by decide +kernel
theorem dX4_screen_38 : decode cX4_screen 38 = .ok (.ireturn, 1) := by decide +kernel
set_option maxRecDepth 20000 in
theorem ggX4_paint_X4_isPixel : GoodIn wsX4_paint wsX4_isPixel := goodIn_r _ [6] (by decide +kernel) (by decide +kernel)
set_option maxRecDepth 20000 in
theorem gX4_paint_X4_isPixel : GoodIn wsX4_paint (va_wsS RX4 66 yX4_isPixel wsX4_isPixel) := goodIn_app (goodIn_of _ (by decide +kernel)) ggX4_paint_X4_isPixel
set_option maxRecDepth 20000 in
theorem ggX4_paint_X4_isColour : GoodIn wsX4_paint wsX4_isColour := goodIn_r _ [9] (by decide +kernel) (by decide +kernel)
set_option maxRecDepth 20000 in
theorem gX4_paint_X4_isColour : GoodIn wsX4_paint (va_wsS RX4 58 yX4_isColour wsX4_isColour) := goodIn_app (goodIn_of _ (by decide +kernel)) ggX4_paint_X4_isColour
set_option maxRecDepth 20000 in
theorem ggX4_paint_X0_remember : GoodIn wsX4_paint wsX0_remember := goodIn_r _ [14, 15, 16, 17, 18, 19, 20, 21, 22, 23, 24, 25, 26, 27, 28, 29, 30, 31, 32, 33, 34, 35, 47, 48, 49, 50, 51, 52, 53, 54] (by decide +kernel) (by decide +kernel)
set_option maxRecDepth 20000 in
theorem gX4_paint_X0_remember : GoodIn wsX4_paint (wsV RX4 51 RX0 yX0_remember wsX0_remember) := goodIn_app (goodIn_of _ (by decide +kernel)) ggX4_paint_X0_remember
set_option maxRecDepth 20000 in
theorem ggX4_paint_X2_picture : GoodIn wsX4_paint wsX2_picture := goodIn_r _ [39, 32, 33, 50, 51, 52, 53, 54] (by decide +kernel) (by decide +kernel)
set_option maxRecDepth 20000 in
theorem gX4_paint_X2_picture : GoodIn wsX4_paint (wsV RX4 69 RX2 yX2_picture wsX2_picture) := goodIn_app (goodIn_of _ (by decide +kernel)) ggX4_paint_X2_picture
theorem dX4_paint_0 : decode cX4_paint 0 = .ok (.iload_n 2, 1) := by decide +kernel
theorem dX4_paint_1 : decode cX4_paint 1 = .ok (.invokestatic 66, 3) := by decide +kernel
theorem dX4_paint_4 : decode cX4_paint 4 = .ok (.ifCond .ne 5, 3) := by decide +kernel
theorem dX4_paint_7 : decode cX4_paint 7 = .ok (.iconst (-1), 1) := by decide +kernel
theorem dX4_paint_8 : decode cX4_paint 8 = .ok (.ireturn, 1) := by decide +kernel
theorem dX4_paint_9 : decode cX4_paint 9 = .ok (.iload_n 3, 1) := by decide +kernel
theorem dX4_paint_10 : decode cX4_paint 10 = .ok (.invokestatic 58, 3) := by decide +kernel
theorem dX4_paint_13 : decode cX4_paint 13 = .ok (.ifCond .ne 6, 3) := by decide +kernel
theorem dX4_paint_16 : decode cX4_paint 16 = .ok (.bipush (-2), 2) := by decide +kernel
theorem dX4_paint_18 : decode cX4_paint 18 = .ok (.ireturn, 1) := by decide +kernel
theorem dX4_paint_19 : decode cX4_paint 19 = .ok (.aload_n 0, 1) := by decide +kernel
theorem dX4_paint_20 : decode cX4_paint 20 = .ok (.getfield 39, 3) := by decide +kernel
theorem dX4_paint_23 : decode cX4_paint 23 = .ok (.aload_n 0, 1) := by decide +kernel
theorem dX4_paint_24 : decode cX4_paint 24 = .ok (.getfield 10, 3) := by decide +kernel
theorem dX4_paint_27 : decode cX4_paint 27 = .ok (.invokevirtual 51, 3) := by decide +kernel
theorem dX4_paint_30 : decode cX4_paint 30 = .ok (.aload_n 0, 1) := by decide +kernel
theorem dX4_paint_31 : decode cX4_paint 31 = .ok (.getfield 10, 3) := by decide +kernel
theorem dX4_paint_34 : decode cX4_paint 34 = .ok (.iload_n 1, 1) := by decide +kernel
theorem dX4_paint_35 : decode cX4_paint 35 = .ok (.invokevirtual 69, 3) := by decide +kernel
theorem dX4_paint_38 : decode cX4_paint 38 = .ok (.astore 4, 2) := by decide +kernel
theorem dX4_paint_40 : decode cX4_paint 40 = .ok (.aload 4, 2) := by decide +kernel
theorem dX4_paint_42 : decode cX4_paint 42 = .ok (.iload_n 2, 1) := by decide +kernel
theorem dX4_paint_43 : decode cX4_paint 43 = .ok (.iaload, 1) := by decide +kernel
theorem dX4_paint_44 : decode cX4_paint 44 = .ok (.istore 5, 2) := by decide +kernel
theorem dX4_paint_46 : decode cX4_paint 46 = .ok (.aload 4, 2) := by decide +kernel
theorem dX4_paint_48 : decode cX4_paint 48 = .ok (.iload_n 2, 1) := by decide +kernel
theorem dX4_paint_49 : decode cX4_paint 49 = .ok (.iload_n 3, 1) := by decide +kernel
theorem dX4_paint_50 : decode cX4_paint 50 = .ok (.iastore, 1) := by decide +kernel
theorem dX4_paint_51 : decode cX4_paint 51 = .ok (.iload 5, 2) := by decide +kernel
theorem dX4_paint_53 : decode cX4_paint 53 = .ok (.ireturn, 1) := by decide +kernel
set_option maxRecDepth 20000 in
theorem ggX4_fill_X4_isPixel : GoodIn wsX4_fill wsX4_isPixel := goodIn_r _ [6] (by decide +kernel) (by decide +kernel)
set_option maxRecDepth 20000 in
theorem gX4_fill_X4_isPixel : GoodIn wsX4_fill (va_wsS RX4 66 yX4_isPixel wsX4_isPixel) := goodIn_app (goodIn_of _ (by decide +kernel)) ggX4_fill_X4_isPixel
set_option maxRecDepth 20000 in
theorem ggX4_fill_X4_isColour : GoodIn wsX4_fill wsX4_isColour := goodIn_r _ [9] (by decide +kernel) (by decide +kernel)
set_option maxRecDepth 20000 in
theorem gX4_fill_X4_isColour : GoodIn wsX4_fill (va_wsS RX4 58 yX4_isColour wsX4_isColour) := goodIn_app (goodIn_of _ (by decide +kernel)) ggX4_fill_X4_isColour
set_option maxRecDepth 20000 in
theorem ggX4_fill_X0_remember : GoodIn wsX4_fill wsX0_remember := goodIn_r _ [14, 15, 16, 17, 18, 19, 20, 21, 22, 23, 24, 25, 26, 27, 28, 29, 30, 31, 32, 33, 34, 35, 57, 58, 59, 60, 61, 62, 63, 64] (by decide +kernel) (by decide +kernel)
set_option maxRecDepth 20000 in
theorem gX4_fill_X0_remember : GoodIn wsX4_fill (wsV RX4 51 RX0 yX0_remember wsX0_remember) := goodIn_app (goodIn_of _ (by decide +kernel)) ggX4_fill_X0_remember
set_option maxRecDepth 20000 in
theorem ggX4_fill_X2_picture : GoodIn wsX4_fill wsX2_picture := goodIn_r _ [39, 32, 33, 60, 61, 62, 63, 64] (by decide +kernel) (by decide +kernel)
set_option maxRecDepth 20000 in
theorem gX4_fill_X2_picture : GoodIn wsX4_fill (wsV RX4 69 RX2 yX2_picture wsX2_picture) := goodIn_app (goodIn_of _ (by decide +kernel)) ggX4_fill_X2_picture
set_option maxRecDepth 20000 in
theorem ggX4_fill_X4_fillBetween : GoodIn wsX4_fill wsX4_fillBetween := goodIn_r _ [42, 43, 44, 45, 46, 47, 48, 49] (by decide +kernel) (by decide +kernel)
set_option maxRecDepth 20000 in
theorem gX4_fill_X4_fillBetween : GoodIn wsX4_fill (va_wsS RX4 73 yX4_fillBetween wsX4_fillBetween) := goodIn_app (goodIn_of _ (by decide +kernel)) ggX4_fill_X4_fillBetween
theorem dX4_fill_0 : decode cX4_fill 0 = .ok (.iload_n 2, 1) := by decide +kernel
theorem dX4_fill_1 : decode cX4_fill 1 = .ok (.invokestatic 66, 3) := by decide +kernel
theorem dX4_fill_4 : decode cX4_fill 4 = .ok (.ifCond .eq 10, 3) := by decide +kernel
theorem dX4_fill_7 : decode cX4_fill 7 = .ok (.iload_n 3, 1) := by decide +kernel
theorem dX4_fill_8 : decode cX4_fill 8 = .ok (.invokestatic 66, 3) := by decide +kernel
theorem dX4_fill_11 : decode cX4_fill 11 = .ok (.ifCond .ne 5, 3) := by decide +kernel
theorem dX4_fill_14 : decode cX4_fill 14 = .ok (.iconst (-1), 1) := by decide +kernel
theorem dX4_fill_15 : decode cX4_fill 15 = .ok (.ireturn, 1) := by decide +kernel
theorem dX4_fill_16 : decode cX4_fill 16 = .ok (.iload 4, 2) := by decide +kernel
theorem dX4_fill_18 : decode cX4_fill 18 = .ok (.invokestatic 58, 3) := by decide +kernel
theorem dX4_fill_21 : decode cX4_fill 21 = .ok (.ifCond .ne 6, 3) := by decide +kernel
theorem dX4_fill_24 : decode cX4_fill 24 = .ok (.bipush (-2), 2) := by decide +kernel
theorem dX4_fill_26 : decode cX4_fill 26 = .ok (.ireturn, 1) := by decide +kernel
theorem dX4_fill_27 : decode cX4_fill 27 = .ok (.aload_n 0, 1) := by decide +kernel
theorem dX4_fill_28 : decode cX4_fill 28 = .ok (.getfield 39, 3) := by decide +kernel
theorem dX4_fill_31 : decode cX4_fill 31 = .ok (.aload_n 0, 1) := by decide +kernel
theorem dX4_fill_32 : decode cX4_fill 32 = .ok (.getfield 10, 3) := by decide +kernel
theorem dX4_fill_35 : decode cX4_fill 35 = .ok (.invokevirtual 51, 3) := by decide +kernel
theorem dX4_fill_38 : decode cX4_fill 38 = .ok (.aload_n 0, 1) := by decide +kernel
theorem dX4_fill_39 : decode cX4_fill 39 = .ok (.getfield 10, 3) := by decide +kernel
theorem dX4_fill_42 : decode cX4_fill 42 = .ok (.iload_n 1, 1) := by decide +kernel
theorem dX4_fill_43 : decode cX4_fill 43 = .ok (.invokevirtual 69, 3) := by decide +kernel
theorem dX4_fill_46 : decode cX4_fill 46 = .ok (.iload_n 2, 1) := by decide +kernel
theorem dX4_fill_47 : decode cX4_fill 47 = .ok (.iload_n 3, 1) := by decide +kernel
theorem dX4_fill_48 : decode cX4_fill 48 = .ok (.iload 4, 2) := by decide +kernel
theorem dX4_fill_50 : decode cX4_fill 50 = .ok (.invokestatic 73, 3) := by decide +kernel
theorem dX4_fill_53 : decode cX4_fill 53 = .ok (.ireturn, 1) := by decide +kernel
set_option maxRecDepth 20000 in
theorem ggX4_read_X4_isRow : GoodIn wsX4_read wsX4_isRow := goodIn_r _ [8] (by decide +kernel) (by decide +kernel)
set_option maxRecDepth 20000 in
theorem gX4_read_X4_isRow : GoodIn wsX4_read (va_wsS RX4 77 yX4_isRow wsX4_isRow) := goodIn_app (goodIn_of _ (by decide +kernel)) ggX4_read_X4_isRow
set_option maxRecDepth 20000 in
theorem ggX4_read_X1_firstFault : GoodIn wsX4_read wsX1_firstFault := goodIn_r _ [13, 14, 15, 16, 17, 12, 18, 62, 63] (by decide +kernel) (by decide +kernel)
set_option maxRecDepth 20000 in
theorem gX4_read_X1_firstFault : GoodIn wsX4_read (wsV RX4 80 RX1 yX1_firstFault wsX1_firstFault) := goodIn_app (goodIn_of _ (by decide +kernel)) ggX4_read_X1_firstFault
set_option maxRecDepth 20000 in
theorem ggX4_read_X0_remember : GoodIn wsX4_read wsX0_remember := goodIn_r _ [23, 24, 25, 26, 27, 28, 29, 30, 31, 32, 33, 34, 35, 36, 37, 38, 39, 40, 41, 42, 43, 44, 64, 65, 66, 67, 68, 69, 70, 71] (by decide +kernel) (by decide +kernel)
set_option maxRecDepth 20000 in
theorem gX4_read_X0_remember : GoodIn wsX4_read (wsV RX4 51 RX0 yX0_remember wsX0_remember) := goodIn_app (goodIn_of _ (by decide +kernel)) ggX4_read_X0_remember
set_option maxRecDepth 20000 in
theorem ggX4_read_X2_picture : GoodIn wsX4_read wsX2_picture := goodIn_r _ [48, 41, 42, 67, 68, 69, 70, 71] (by decide +kernel) (by decide +kernel)
set_option maxRecDepth 20000 in
theorem gX4_read_X2_picture : GoodIn wsX4_read (wsV RX4 69 RX2 yX2_picture wsX2_picture) := goodIn_app (goodIn_of _ (by decide +kernel)) ggX4_read_X2_picture
set_option maxRecDepth 20000 in
theorem ggX4_read_X1_paintOn : GoodIn wsX4_read wsX1_paintOn := goodIn_r _ [52, 14, 15, 16, 17, 12, 18, 53, 7, 54, 62, 63] (by decide +kernel) (by decide +kernel)
set_option maxRecDepth 20000 in
theorem gX4_read_X1_paintOn : GoodIn wsX4_read (wsV RX4 84 RX1 yX1_paintOn wsX1_paintOn) := goodIn_app (goodIn_of _ (by decide +kernel)) ggX4_read_X1_paintOn
theorem dX4_read_0 : decode cX4_read 0 = .ok (.iload_n 2, 1) := by decide +kernel
theorem dX4_read_1 : decode cX4_read 1 = .ok (.invokestatic 77, 3) := by decide +kernel
theorem dX4_read_4 : decode cX4_read 4 = .ok (.ifCond .ne 5, 3) := by decide +kernel
theorem dX4_read_7 : decode cX4_read 7 = .ok (.iconst (-1), 1) := by decide +kernel
theorem dX4_read_8 : decode cX4_read 8 = .ok (.ireturn, 1) := by decide +kernel
theorem dX4_read_9 : decode cX4_read 9 = .ok (.aload_n 0, 1) := by decide +kernel
theorem dX4_read_10 : decode cX4_read 10 = .ok (.getfield 32, 3) := by decide +kernel
theorem dX4_read_13 : decode cX4_read 13 = .ok (.invokevirtual 80, 3) := by decide +kernel
theorem dX4_read_16 : decode cX4_read 16 = .ok (.bipush (-6), 2) := by decide +kernel
theorem dX4_read_18 : decode cX4_read 18 = .ok (.if_icmp .eq 6, 3) := by decide +kernel
theorem dX4_read_21 : decode cX4_read 21 = .ok (.bipush (-3), 2) := by decide +kernel
theorem dX4_read_23 : decode cX4_read 23 = .ok (.ireturn, 1) := by decide +kernel
theorem dX4_read_24 : decode cX4_read 24 = .ok (.aload_n 0, 1) := by decide +kernel
theorem dX4_read_25 : decode cX4_read 25 = .ok (.getfield 39, 3) := by decide +kernel
theorem dX4_read_28 : decode cX4_read 28 = .ok (.aload_n 0, 1) := by decide +kernel
theorem dX4_read_29 : decode cX4_read 29 = .ok (.getfield 10, 3) := by decide +kernel
theorem dX4_read_32 : decode cX4_read 32 = .ok (.invokevirtual 51, 3) := by decide +kernel
theorem dX4_read_35 : decode cX4_read 35 = .ok (.aload_n 0, 1) := by decide +kernel
theorem dX4_read_36 : decode cX4_read 36 = .ok (.getfield 32, 3) := by decide +kernel
theorem dX4_read_39 : decode cX4_read 39 = .ok (.aload_n 0, 1) := by decide +kernel
theorem dX4_read_40 : decode cX4_read 40 = .ok (.getfield 10, 3) := by decide +kernel
theorem dX4_read_43 : decode cX4_read 43 = .ok (.iload_n 1, 1) := by decide +kernel
theorem dX4_read_44 : decode cX4_read 44 = .ok (.invokevirtual 69, 3) := by decide +kernel
theorem dX4_read_47 : decode cX4_read 47 = .ok (.bipush 8, 2) := by decide +kernel
theorem dX4_read_49 : decode cX4_read 49 = .ok (.iload_n 2, 1) := by decide +kernel
theorem dX4_read_50 : decode cX4_read 50 = .ok (.imul, 1) := by decide +kernel
theorem dX4_read_51 : decode cX4_read 51 = .ok (.invokevirtual 84, 3) := by decide +kernel
theorem dX4_read_54 : decode cX4_read 54 = .ok (.istore_n 3, 1) := by decide +kernel
theorem dX4_read_55 : decode cX4_read 55 = .ok (.aload_n 0, 1) := by decide +kernel
theorem dX4_read_56 : decode cX4_read 56 = .ok (.getfield 32, 3) := by decide +kernel
theorem dX4_read_59 : decode cX4_read 59 = .ok (.iconst 0, 1) := by decide +kernel
theorem dX4_read_60 : decode cX4_read 60 = .ok (.putfield 88, 3) := by decide +kernel
theorem dX4_read_63 : decode cX4_read 63 = .ok (.iload_n 3, 1) := by decide +kernel
theorem dX4_read_64 : decode cX4_read 64 = .ok (.ireturn, 1) := by decide +kernel
set_option maxRecDepth 20000 in
theorem ggX4_mark_X4_isPixel : GoodIn wsX4_mark wsX4_isPixel := goodIn_r _ [7] (by decide +kernel) (by decide +kernel)
set_option maxRecDepth 20000 in
theorem gX4_mark_X4_isPixel : GoodIn wsX4_mark (va_wsS RX4 66 yX4_isPixel wsX4_isPixel) := goodIn_app (goodIn_of _ (by decide +kernel)) ggX4_mark_X4_isPixel
set_option maxRecDepth 20000 in
theorem ggX4_mark_X0_remember : GoodIn wsX4_mark wsX0_remember := goodIn_r _ [12, 13, 14, 15, 16, 17, 18, 19, 20, 21, 22, 23, 24, 25, 26, 27, 28, 29, 30, 31, 32, 33, 50, 51, 52, 45, 46, 47, 48, 49] (by decide +kernel) (by decide +kernel)
set_option maxRecDepth 20000 in
theorem gX4_mark_X0_remember : GoodIn wsX4_mark (wsV RX4 51 RX0 yX0_remember wsX0_remember) := goodIn_app (goodIn_of _ (by decide +kernel)) ggX4_mark_X0_remember
set_option maxRecDepth 20000 in
theorem ggX4_mark_X2_marked : GoodIn wsX4_mark wsX2_marked := goodIn_r _ [37, 32, 45, 46, 47, 48, 49] (by decide +kernel) (by decide +kernel)
set_option maxRecDepth 20000 in
theorem gX4_mark_X2_marked : GoodIn wsX4_mark (wsV RX4 95 RX2 yX2_marked wsX2_marked) := goodIn_app (goodIn_of _ (by decide +kernel)) ggX4_mark_X2_marked
theorem dX4_mark_0 : decode cX4_mark 0 = .ok (.iload_n 1, 1) := by decide +kernel
theorem dX4_mark_1 : decode cX4_mark 1 = .ok (.invokestatic 66, 3) := by decide +kernel
theorem dX4_mark_4 : decode cX4_mark 4 = .ok (.ifCond .ne 5, 3) := by decide +kernel
theorem dX4_mark_7 : decode cX4_mark 7 = .ok (.iconst (-1), 1) := by decide +kernel
theorem dX4_mark_8 : decode cX4_mark 8 = .ok (.ireturn, 1) := by decide +kernel
theorem dX4_mark_9 : decode cX4_mark 9 = .ok (.aload_n 0, 1) := by decide +kernel
theorem dX4_mark_10 : decode cX4_mark 10 = .ok (.getfield 10, 3) := by decide +kernel
theorem dX4_mark_13 : decode cX4_mark 13 = .ok (.getfield 91, 3) := by decide +kernel
theorem dX4_mark_16 : decode cX4_mark 16 = .ok (.iload_n 1, 1) := by decide +kernel
theorem dX4_mark_17 : decode cX4_mark 17 = .ok (.baload, 1) := by decide +kernel
theorem dX4_mark_18 : decode cX4_mark 18 = .ok (.iload_n 2, 1) := by decide +kernel
theorem dX4_mark_19 : decode cX4_mark 19 = .ok (.if_icmp .ne 6, 3) := by decide +kernel
theorem dX4_mark_22 : decode cX4_mark 22 = .ok (.bipush (-5), 2) := by decide +kernel
theorem dX4_mark_24 : decode cX4_mark 24 = .ok (.ireturn, 1) := by decide +kernel
theorem dX4_mark_25 : decode cX4_mark 25 = .ok (.aload_n 0, 1) := by decide +kernel
theorem dX4_mark_26 : decode cX4_mark 26 = .ok (.getfield 39, 3) := by decide +kernel
theorem dX4_mark_29 : decode cX4_mark 29 = .ok (.aload_n 0, 1) := by decide +kernel
theorem dX4_mark_30 : decode cX4_mark 30 = .ok (.getfield 10, 3) := by decide +kernel
theorem dX4_mark_33 : decode cX4_mark 33 = .ok (.invokevirtual 51, 3) := by decide +kernel
theorem dX4_mark_36 : decode cX4_mark 36 = .ok (.aload_n 0, 1) := by decide +kernel
theorem dX4_mark_37 : decode cX4_mark 37 = .ok (.getfield 10, 3) := by decide +kernel
theorem dX4_mark_40 : decode cX4_mark 40 = .ok (.getfield 91, 3) := by decide +kernel
theorem dX4_mark_43 : decode cX4_mark 43 = .ok (.iload_n 1, 1) := by decide +kernel
theorem dX4_mark_44 : decode cX4_mark 44 = .ok (.iload_n 2, 1) := by decide +kernel
theorem dX4_mark_45 : decode cX4_mark 45 = .ok (.bastore, 1) := by decide +kernel
theorem dX4_mark_46 : decode cX4_mark 46 = .ok (.aload_n 0, 1) := by decide +kernel
theorem dX4_mark_47 : decode cX4_mark 47 = .ok (.getfield 10, 3) := by decide +kernel
theorem dX4_mark_50 : decode cX4_mark 50 = .ok (.invokevirtual 95, 3) := by decide +kernel
theorem dX4_mark_53 : decode cX4_mark 53 = .ok (.ireturn, 1) := by decide +kernel
set_option maxRecDepth 20000 in
theorem ggX4_keep_X0_remember : GoodIn wsX4_keep wsX0_remember := goodIn_r _ [11, 12, 13, 14, 15, 16, 17, 18, 19, 20, 21, 22, 23, 24, 25, 26, 27, 28, 29, 30, 31, 32, 148, 149, 150, 143, 144, 145, 146, 147] (by decide +kernel) (by decide +kernel)
set_option maxRecDepth 20000 in
theorem gX4_keep_X0_remember : GoodIn wsX4_keep (wsV RX4 51 RX0 yX0_remember wsX0_remember) := goodIn_app (goodIn_of _ (by decide +kernel)) ggX4_keep_X0_remember
set_option maxRecDepth 20000 in
theorem ggX4_keep_X3_show : GoodIn wsX4_keep wsX3_show := goodIn_r _ [37, 38, 39, 40, 36, 41, 42, 43, 44, 45, 46, 47, 22, 48, 29, 32, 49, 50, 51, 52, 53, 54, 55, 56, 57, 58, 59, 60, 61, 62, 63, 64, 65, 66, 67, 68, 69, 70, 71, 72, 73, 74, 75, 76, 77, 78, 79, 80, 81, 82, 83, 84, 85, 86, 87, 88, 89, 90, 91, 92, 93, 94, 95, 96, 97, 98, 99, 100, 101, 102, 103, 104, 105, 106, 107, 108, 109, 110, 111, 112, 113, 114, 115, 116, 117, 118, 119, 120, 121, 122, 143, 144, 145, 146, 147, 133, 134, 135, 136, 137, 138, 139, 140, 141, 142] (by decide +kernel) (by decide +kernel)
set_option maxRecDepth 20000 in
theorem gX4_keep_X3_show : GoodIn wsX4_keep (wsV RX4 98 RX3 yX3_show wsX3_show) := goodIn_app (goodIn_of _ (by decide +kernel)) ggX4_keep_X3_show
set_option maxRecDepth 20000 in
theorem ggX4_keep_X4_sameColours : GoodIn wsX4_keep wsX4_sameColours := goodIn_r _ [125] (by decide +kernel) (by decide +kernel)
set_option maxRecDepth 20000 in
theorem gX4_keep_X4_sameColours : GoodIn wsX4_keep (va_wsS RX4 108 yX4_sameColours wsX4_sameColours) := goodIn_app (goodIn_of _ (by decide +kernel)) ggX4_keep_X4_sameColours
theorem dX4_keep_0 : decode cX4_keep 0 = .ok (.aload_n 0, 1) := by decide +kernel
theorem dX4_keep_1 : decode cX4_keep 1 = .ok (.getfield 39, 3) := by decide +kernel
theorem dX4_keep_4 : decode cX4_keep 4 = .ok (.aload_n 0, 1) := by decide +kernel
theorem dX4_keep_5 : decode cX4_keep 5 = .ok (.getfield 10, 3) := by decide +kernel
theorem dX4_keep_8 : decode cX4_keep 8 = .ok (.invokevirtual 51, 3) := by decide +kernel
theorem dX4_keep_11 : decode cX4_keep 11 = .ok (.aload_n 0, 1) := by decide +kernel
theorem dX4_keep_12 : decode cX4_keep 12 = .ok (.getfield 22, 3) := by decide +kernel
theorem dX4_keep_15 : decode cX4_keep 15 = .ok (.aload_n 0, 1) := by decide +kernel
theorem dX4_keep_16 : decode cX4_keep 16 = .ok (.getfield 10, 3) := by decide +kernel
theorem dX4_keep_19 : decode cX4_keep 19 = .ok (.invokevirtual 98, 3) := by decide +kernel
theorem dX4_keep_22 : decode cX4_keep 22 = .ok (.bipush 48, 2) := by decide +kernel
theorem dX4_keep_24 : decode cX4_keep 24 = .ok (.aload_n 0, 1) := by decide +kernel
theorem dX4_keep_25 : decode cX4_keep 25 = .ok (.getfield 22, 3) := by decide +kernel
theorem dX4_keep_28 : decode cX4_keep 28 = .ok (.getfield 101, 3) := by decide +kernel
theorem dX4_keep_31 : decode cX4_keep 31 = .ok (.aload_n 0, 1) := by decide +kernel
theorem dX4_keep_32 : decode cX4_keep 32 = .ok (.getfield 10, 3) := by decide +kernel
theorem dX4_keep_35 : decode cX4_keep 35 = .ok (.getfield 105, 3) := by decide +kernel
theorem dX4_keep_38 : decode cX4_keep 38 = .ok (.invokestatic 108, 3) := by decide +kernel
theorem dX4_keep_41 : decode cX4_keep 41 = .ok (.isub, 1) := by decide +kernel
theorem dX4_keep_42 : decode cX4_keep 42 = .ok (.istore_n 1, 1) := by decide +kernel
theorem dX4_keep_43 : decode cX4_keep 43 = .ok (.iconst 0, 1) := by decide +kernel
theorem dX4_keep_44 : decode cX4_keep 44 = .ok (.istore_n 2, 1) := by decide +kernel
theorem dX4_keep_45 : decode cX4_keep 45 = .ok (.iload_n 2, 1) := by decide +kernel
theorem dX4_keep_46 : decode cX4_keep 46 = .ok (.bipush 48, 2) := by decide +kernel
theorem dX4_keep_48 : decode cX4_keep 48 = .ok (.if_icmp .ge 37, 3) := by decide +kernel
theorem dX4_keep_51 : decode cX4_keep 51 = .ok (.aload_n 0, 1) := by decide +kernel
theorem dX4_keep_52 : decode cX4_keep 52 = .ok (.getfield 10, 3) := by decide +kernel
theorem dX4_keep_55 : decode cX4_keep 55 = .ok (.getfield 105, 3) := by decide +kernel
theorem dX4_keep_58 : decode cX4_keep 58 = .ok (.iload_n 2, 1) := by decide +kernel
theorem dX4_keep_59 : decode cX4_keep 59 = .ok (.aload_n 0, 1) := by decide +kernel
theorem dX4_keep_60 : decode cX4_keep 60 = .ok (.getfield 22, 3) := by decide +kernel
theorem dX4_keep_63 : decode cX4_keep 63 = .ok (.getfield 101, 3) := by decide +kernel
theorem dX4_keep_66 : decode cX4_keep 66 = .ok (.iload_n 2, 1) := by decide +kernel
theorem dX4_keep_67 : decode cX4_keep 67 = .ok (.iaload, 1) := by decide +kernel
theorem dX4_keep_68 : decode cX4_keep 68 = .ok (.iastore, 1) := by decide +kernel
theorem dX4_keep_69 : decode cX4_keep 69 = .ok (.aload_n 0, 1) := by decide +kernel
theorem dX4_keep_70 : decode cX4_keep 70 = .ok (.getfield 10, 3) := by decide +kernel
theorem dX4_keep_73 : decode cX4_keep 73 = .ok (.getfield 91, 3) := by decide +kernel
theorem dX4_keep_76 : decode cX4_keep 76 = .ok (.iload_n 2, 1) := by decide +kernel
theorem dX4_keep_77 : decode cX4_keep 77 = .ok (.iconst 0, 1) := by decide +kernel
theorem dX4_keep_78 : decode cX4_keep 78 = .ok (.bastore, 1) := by decide +kernel
theorem dX4_keep_79 : decode cX4_keep 79 = .ok (.iinc 2 1, 3) := by decide +kernel
theorem dX4_keep_82 : decode cX4_keep 82 = .ok (.goto (-37), 3) := by decide +kernel
theorem dX4_keep_85 : decode cX4_keep 85 = .ok (.iload_n 1, 1) := by decide +kernel
theorem dX4_keep_86 : decode cX4_keep 86 = .ok (.ireturn, 1) := by decide +kernel
set_option maxRecDepth 20000 in
theorem ggX4_pixel_X4_isPixel : GoodIn wsX4_pixel wsX4_isPixel := goodIn_r _ [15] (by decide +kernel) (by decide +kernel)
set_option maxRecDepth 20000 in
theorem gX4_pixel_X4_isPixel : GoodIn wsX4_pixel (va_wsS RX4 66 yX4_isPixel wsX4_isPixel) := goodIn_app (goodIn_of _ (by decide +kernel)) ggX4_pixel_X4_isPixel
set_option maxRecDepth 20000 in
theorem ggX4_pixel_X3_show : GoodIn wsX4_pixel wsX3_show := goodIn_r _ [20, 21, 22, 23, 19, 24, 25, 26, 27, 28, 29, 30, 31, 32, 33, 34, 13, 14, 15, 35, 36, 37, 38, 39, 40, 41, 42, 43, 44, 45, 46, 47, 48, 49, 50, 51, 52, 53, 54, 55, 56, 57, 58, 59, 60, 61, 62, 63, 64, 65, 66, 67, 68, 69, 70, 71, 72, 73, 74, 75, 76, 77, 78, 79, 80, 81, 82, 83, 84, 85, 86, 87, 88, 89, 90, 91, 92, 93, 94, 95, 96, 97, 98, 99, 100, 101, 102, 103, 104, 105, 114, 115, 116, 117, 118, 119, 120, 121, 122, 123, 124, 125, 126, 127, 128] (by decide +kernel) (by decide +kernel)
set_option maxRecDepth 20000 in
theorem gX4_pixel_X3_show : GoodIn wsX4_pixel (wsV RX4 98 RX3 yX3_show wsX3_show) := goodIn_app (goodIn_of _ (by decide +kernel)) ggX4_pixel_X3_show
set_option maxRecDepth 20000 in
theorem ggX4_pixel_X2_distanceOf : GoodIn wsX4_pixel wsX2_distanceOf := goodIn_r _ [32, 33, 34, 13, 14, 15, 35, 36, 37, 38, 39, 40, 41, 42, 43, 44, 45, 46, 114, 115, 116, 117, 118] (by decide +kernel) (by decide +kernel)
set_option maxRecDepth 20000 in
theorem gX4_pixel_X2_distanceOf : GoodIn wsX4_pixel (wsV RX4 115 RX2 yX2_distanceOf wsX2_distanceOf) := goodIn_app (goodIn_of _ (by decide +kernel)) ggX4_pixel_X2_distanceOf
theorem dX4_pixel_0 : decode cX4_pixel 0 = .ok (.iload_n 1, 1) := by decide +kernel
theorem dX4_pixel_1 : decode cX4_pixel 1 = .ok (.invokestatic 66, 3) := by decide +kernel
theorem dX4_pixel_4 : decode cX4_pixel 4 = .ok (.ifCond .ne 5, 3) := by decide +kernel
theorem dX4_pixel_7 : decode cX4_pixel 7 = .ok (.iconst (-1), 1) := by decide +kernel
theorem dX4_pixel_8 : decode cX4_pixel 8 = .ok (.ireturn, 1) := by decide +kernel
theorem dX4_pixel_9 : decode cX4_pixel 9 = .ok (.aload_n 0, 1) := by decide +kernel
theorem dX4_pixel_10 : decode cX4_pixel 10 = .ok (.getfield 22, 3) := by decide +kernel
theorem dX4_pixel_13 : decode cX4_pixel 13 = .ok (.aload_n 0, 1) := by decide +kernel
theorem dX4_pixel_14 : decode cX4_pixel 14 = .ok (.getfield 10, 3) := by decide +kernel
theorem dX4_pixel_17 : decode cX4_pixel 17 = .ok (.invokevirtual 98, 3) := by decide +kernel
theorem dX4_pixel_20 : decode cX4_pixel 20 = .ok (.iload_n 2, 1) := by decide +kernel
theorem dX4_pixel_21 : decode cX4_pixel 21 = .ok (.tableswitch 154 0 9 #[55, 65, 75, 84, 94, 104, 114, 124, 134, 144], 55) := by decide +kernel
theorem dX4_pixel_76 : decode cX4_pixel 76 = .ok (.aload_n 0, 1) := by decide +kernel
theorem dX4_pixel_77 : decode cX4_pixel 77 = .ok (.getfield 10, 3) := by decide +kernel
theorem dX4_pixel_80 : decode cX4_pixel 80 = .ok (.getfield 105, 3) := by decide +kernel
theorem dX4_pixel_83 : decode cX4_pixel 83 = .ok (.iload_n 1, 1) := by decide +kernel
theorem dX4_pixel_84 : decode cX4_pixel 84 = .ok (.iaload, 1) := by decide +kernel
theorem dX4_pixel_85 : decode cX4_pixel 85 = .ok (.ireturn, 1) := by decide +kernel
theorem dX4_pixel_86 : decode cX4_pixel 86 = .ok (.aload_n 0, 1) := by decide +kernel
theorem dX4_pixel_87 : decode cX4_pixel 87 = .ok (.getfield 10, 3) := by decide +kernel
theorem dX4_pixel_90 : decode cX4_pixel 90 = .ok (.getfield 112, 3) := by decide +kernel
theorem dX4_pixel_93 : decode cX4_pixel 93 = .ok (.iload_n 1, 1) := by decide +kernel
theorem dX4_pixel_94 : decode cX4_pixel 94 = .ok (.iaload, 1) := by decide +kernel
theorem dX4_pixel_95 : decode cX4_pixel 95 = .ok (.ireturn, 1) := by decide +kernel
theorem dX4_pixel_96 : decode cX4_pixel 96 = .ok (.aload_n 0, 1) := by decide +kernel
theorem dX4_pixel_97 : decode cX4_pixel 97 = .ok (.getfield 10, 3) := by decide +kernel
theorem dX4_pixel_100 : decode cX4_pixel 100 = .ok (.iload_n 1, 1) := by decide +kernel
theorem dX4_pixel_101 : decode cX4_pixel 101 = .ok (.invokevirtual 115, 3) := by decide +kernel
theorem dX4_pixel_104 : decode cX4_pixel 104 = .ok (.ireturn, 1) := by decide +kernel
theorem dX4_pixel_105 : decode cX4_pixel 105 = .ok (.aload_n 0, 1) := by decide +kernel
theorem dX4_pixel_106 : decode cX4_pixel 106 = .ok (.getfield 22, 3) := by decide +kernel
theorem dX4_pixel_109 : decode cX4_pixel 109 = .ok (.getfield 119, 3) := by decide +kernel
theorem dX4_pixel_112 : decode cX4_pixel 112 = .ok (.iload_n 1, 1) := by decide +kernel
theorem dX4_pixel_113 : decode cX4_pixel 113 = .ok (.iaload, 1) := by decide +kernel
theorem dX4_pixel_114 : decode cX4_pixel 114 = .ok (.ireturn, 1) := by decide +kernel
theorem dX4_pixel_115 : decode cX4_pixel 115 = .ok (.aload_n 0, 1) := by decide +kernel
theorem dX4_pixel_116 : decode cX4_pixel 116 = .ok (.getfield 22, 3) := by decide +kernel
theorem dX4_pixel_119 : decode cX4_pixel 119 = .ok (.getfield 122, 3) := by decide +kernel
theorem dX4_pixel_122 : decode cX4_pixel 122 = .ok (.iload_n 1, 1) := by decide +kernel
theorem dX4_pixel_123 : decode cX4_pixel 123 = .ok (.iaload, 1) := by decide +kernel
theorem dX4_pixel_124 : decode cX4_pixel 124 = .ok (.ireturn, 1) := by decide +kernel
theorem dX4_pixel_125 : decode cX4_pixel 125 = .ok (.aload_n 0, 1) := by decide +kernel
theorem dX4_pixel_126 : decode cX4_pixel 126 = .ok (.getfield 22, 3) := by decide +kernel
theorem dX4_pixel_129 : decode cX4_pixel 129 = .ok (.getfield 125, 3) := by decide +kernel
theorem dX4_pixel_132 : decode cX4_pixel 132 = .ok (.iload_n 1, 1) := by decide +kernel
theorem dX4_pixel_133 : decode cX4_pixel 133 = .ok (.iaload, 1) := by decide +kernel
theorem dX4_pixel_134 : decode cX4_pixel 134 = .ok (.ireturn, 1) := by decide +kernel
theorem dX4_pixel_135 : decode cX4_pixel 135 = .ok (.aload_n 0, 1) := by decide +kernel
theorem dX4_pixel_136 : decode cX4_pixel 136 = .ok (.getfield 22, 3) := by decide +kernel
theorem dX4_pixel_139 : decode cX4_pixel 139 = .ok (.getfield 128, 3) := by decide +kernel
theorem dX4_pixel_142 : decode cX4_pixel 142 = .ok (.iload_n 1, 1) := by decide +kernel
theorem dX4_pixel_143 : decode cX4_pixel 143 = .ok (.iaload, 1) := by decide +kernel
theorem dX4_pixel_144 : decode cX4_pixel 144 = .ok (.ireturn, 1) := by decide +kernel
theorem dX4_pixel_145 : decode cX4_pixel 145 = .ok (.aload_n 0, 1) := by decide +kernel
theorem dX4_pixel_146 : decode cX4_pixel 146 = .ok (.getfield 22, 3) := by decide +kernel
theorem dX4_pixel_149 : decode cX4_pixel 149 = .ok (.getfield 131, 3) := by decide +kernel
theorem dX4_pixel_152 : decode cX4_pixel 152 = .ok (.iload_n 1, 1) := by decide +kernel
theorem dX4_pixel_153 : decode cX4_pixel 153 = .ok (.iaload, 1) := by decide +kernel
theorem dX4_pixel_154 : decode cX4_pixel 154 = .ok (.ireturn, 1) := by decide +kernel
theorem dX4_pixel_155 : decode cX4_pixel 155 = .ok (.aload_n 0, 1) := by decide +kernel
theorem dX4_pixel_156 : decode cX4_pixel 156 = .ok (.getfield 22, 3) := by decide +kernel
theorem dX4_pixel_159 : decode cX4_pixel 159 = .ok (.getfield 134, 3) := by decide +kernel
theorem dX4_pixel_162 : decode cX4_pixel 162 = .ok (.iload_n 1, 1) := by decide +kernel
theorem dX4_pixel_163 : decode cX4_pixel 163 = .ok (.iaload, 1) := by decide +kernel
theorem dX4_pixel_164 : decode cX4_pixel 164 = .ok (.ireturn, 1) := by decide +kernel
theorem dX4_pixel_165 : decode cX4_pixel 165 = .ok (.aload_n 0, 1) := by decide +kernel
theorem dX4_pixel_166 : decode cX4_pixel 166 = .ok (.getfield 22, 3) := by decide +kernel
theorem dX4_pixel_169 : decode cX4_pixel 169 = .ok (.getfield 101, 3) := by decide +kernel
theorem dX4_pixel_172 : decode cX4_pixel 172 = .ok (.iload_n 1, 1) := by decide +kernel
theorem dX4_pixel_173 : decode cX4_pixel 173 = .ok (.iaload, 1) := by decide +kernel
theorem dX4_pixel_174 : decode cX4_pixel 174 = .ok (.ireturn, 1) := by decide +kernel
theorem dX4_pixel_175 : decode cX4_pixel 175 = .ok (.bipush (-2), 2) := by decide +kernel
theorem dX4_pixel_177 : decode cX4_pixel 177 = .ok (.ireturn, 1) := by decide +kernel
set_option maxRecDepth 20000 in
theorem ggX4_count_X3_show : GoodIn wsX4_count wsX3_show := goodIn_r _ [19, 20, 21, 22, 18, 23, 24, 25, 26, 27, 28, 29, 30, 31, 32, 33, 34, 35, 36, 37, 38, 39, 40, 41, 42, 43, 44, 45, 46, 47, 48, 49, 50, 51, 52, 53, 54, 55, 56, 57, 58, 59, 60, 61, 62, 63, 64, 65, 66, 67, 68, 69, 70, 71, 72, 73, 74, 75, 76, 77, 78, 79, 80, 81, 82, 83, 84, 85, 86, 87, 88, 89, 90, 91, 92, 93, 94, 95, 96, 97, 98, 99, 100, 101, 102, 103, 104, 105, 106, 107, 134, 135, 136, 137, 138, 139, 140, 141, 142, 143, 144, 145, 146, 147, 148] (by decide +kernel) (by decide +kernel)
set_option maxRecDepth 20000 in
theorem gX4_count_X3_show : GoodIn wsX4_count (wsV RX4 98 RX3 yX3_show wsX3_show) := goodIn_app (goodIn_of _ (by decide +kernel)) ggX4_count_X3_show
set_option maxRecDepth 20000 in
theorem ggX4_count_X3_ofKind : GoodIn wsX4_count wsX3_ofKind := goodIn_r _ [111, 75, 139, 140, 141, 142, 143, 144, 145, 146, 147, 148] (by decide +kernel) (by decide +kernel)
set_option maxRecDepth 20000 in
theorem gX4_count_X3_ofKind : GoodIn wsX4_count (wsV RX4 140 RX3 yX3_ofKind wsX3_ofKind) := goodIn_app (goodIn_of _ (by decide +kernel)) ggX4_count_X3_ofKind
set_option maxRecDepth 20000 in
theorem ggX4_count_X4_sum : GoodIn wsX4_count wsX4_sum := goodIn_r _ [114] (by decide +kernel) (by decide +kernel)
set_option maxRecDepth 20000 in
theorem gX4_count_X4_sum : GoodIn wsX4_count (va_wsS RX4 143 yX4_sum wsX4_sum) := goodIn_app (goodIn_of _ (by decide +kernel)) ggX4_count_X4_sum
set_option maxRecDepth 20000 in
theorem ggX4_count_X3_closed : GoodIn wsX4_count wsX3_closed := goodIn_r _ [118, 26, 25, 139, 140, 141, 142, 143, 144, 145, 146, 147, 148] (by decide +kernel) (by decide +kernel)
set_option maxRecDepth 20000 in
theorem gX4_count_X3_closed : GoodIn wsX4_count (wsV RX4 147 RX3 yX3_closed wsX3_closed) := goodIn_app (goodIn_of _ (by decide +kernel)) ggX4_count_X3_closed
set_option maxRecDepth 20000 in
theorem ggX4_count_X4_sameColours : GoodIn wsX4_count wsX4_sameColours := goodIn_r _ [121] (by decide +kernel) (by decide +kernel)
set_option maxRecDepth 20000 in
theorem gX4_count_X4_sameColours : GoodIn wsX4_count (va_wsS RX4 108 yX4_sameColours wsX4_sameColours) := goodIn_app (goodIn_of _ (by decide +kernel)) ggX4_count_X4_sameColours
set_option maxRecDepth 20000 in
theorem ggX4_count_X2_marked : GoodIn wsX4_count wsX2_marked := goodIn_r _ [125, 126, 134, 135, 136, 137, 138] (by decide +kernel) (by decide +kernel)
set_option maxRecDepth 20000 in
theorem gX4_count_X2_marked : GoodIn wsX4_count (wsV RX4 95 RX2 yX2_marked wsX2_marked) := goodIn_app (goodIn_of _ (by decide +kernel)) ggX4_count_X2_marked
theorem dX4_count_0 : decode cX4_count 0 = .ok (.iload_n 1, 1) := by decide +kernel
theorem dX4_count_1 : decode cX4_count 1 = .ok (.ifCond .lt 19, 3) := by decide +kernel
theorem dX4_count_4 : decode cX4_count 4 = .ok (.iload_n 1, 1) := by decide +kernel
theorem dX4_count_5 : decode cX4_count 5 = .ok (.bipush 6, 2) := by decide +kernel
theorem dX4_count_7 : decode cX4_count 7 = .ok (.if_icmp .ge 13, 3) := by decide +kernel
theorem dX4_count_10 : decode cX4_count 10 = .ok (.aload_n 0, 1) := by decide +kernel
theorem dX4_count_11 : decode cX4_count 11 = .ok (.getfield 10, 3) := by decide +kernel
theorem dX4_count_14 : decode cX4_count 14 = .ok (.getfield 137, 3) := by decide +kernel
theorem dX4_count_17 : decode cX4_count 17 = .ok (.iload_n 1, 1) := by decide +kernel
theorem dX4_count_18 : decode cX4_count 18 = .ok (.iaload, 1) := by decide +kernel
theorem dX4_count_19 : decode cX4_count 19 = .ok (.ireturn, 1) := by decide +kernel
theorem dX4_count_20 : decode cX4_count 20 = .ok (.aload_n 0, 1) := by decide +kernel
theorem dX4_count_21 : decode cX4_count 21 = .ok (.getfield 22, 3) := by decide +kernel
theorem dX4_count_24 : decode cX4_count 24 = .ok (.aload_n 0, 1) := by decide +kernel
theorem dX4_count_25 : decode cX4_count 25 = .ok (.getfield 10, 3) := by decide +kernel
theorem dX4_count_28 : decode cX4_count 28 = .ok (.invokevirtual 98, 3) := by decide +kernel
theorem dX4_count_31 : decode cX4_count 31 = .ok (.iload_n 1, 1) := by decide +kernel
theorem dX4_count_32 : decode cX4_count 32 = .ok (.tableswitch 230 6 20 #[76, 84, 93, 102, 111, 120, 129, 140, 151, 162, 170, 188, 206, 214, 222], 76) := by decide +kernel
theorem dX4_count_108 : decode cX4_count 108 = .ok (.aload_n 0, 1) := by decide +kernel
theorem dX4_count_109 : decode cX4_count 109 = .ok (.getfield 10, 3) := by decide +kernel
theorem dX4_count_112 : decode cX4_count 112 = .ok (.getfield 62, 3) := by decide +kernel
theorem dX4_count_115 : decode cX4_count 115 = .ok (.ireturn, 1) := by decide +kernel
theorem dX4_count_116 : decode cX4_count 116 = .ok (.aload_n 0, 1) := by decide +kernel
theorem dX4_count_117 : decode cX4_count 117 = .ok (.getfield 22, 3) := by decide +kernel
theorem dX4_count_120 : decode cX4_count 120 = .ok (.iconst 0, 1) := by decide +kernel
theorem dX4_count_121 : decode cX4_count 121 = .ok (.invokevirtual 140, 3) := by decide +kernel
theorem dX4_count_124 : decode cX4_count 124 = .ok (.ireturn, 1) := by decide +kernel
theorem dX4_count_125 : decode cX4_count 125 = .ok (.aload_n 0, 1) := by decide +kernel
theorem dX4_count_126 : decode cX4_count 126 = .ok (.getfield 22, 3) := by decide +kernel
theorem dX4_count_129 : decode cX4_count 129 = .ok (.iconst 1, 1) := by decide +kernel
theorem dX4_count_130 : decode cX4_count 130 = .ok (.invokevirtual 140, 3) := by decide +kernel
theorem dX4_count_133 : decode cX4_count 133 = .ok (.ireturn, 1) := by decide +kernel
theorem dX4_count_134 : decode cX4_count 134 = .ok (.aload_n 0, 1) := by decide +kernel
theorem dX4_count_135 : decode cX4_count 135 = .ok (.getfield 22, 3) := by decide +kernel
theorem dX4_count_138 : decode cX4_count 138 = .ok (.iconst 2, 1) := by decide +kernel
theorem dX4_count_139 : decode cX4_count 139 = .ok (.invokevirtual 140, 3) := by decide +kernel
theorem dX4_count_142 : decode cX4_count 142 = .ok (.ireturn, 1) := by decide +kernel
theorem dX4_count_143 : decode cX4_count 143 = .ok (.aload_n 0, 1) := by decide +kernel
theorem dX4_count_144 : decode cX4_count 144 = .ok (.getfield 22, 3) := by decide +kernel
theorem dX4_count_147 : decode cX4_count 147 = .ok (.iconst 3, 1) := by decide +kernel
theorem dX4_count_148 : decode cX4_count 148 = .ok (.invokevirtual 140, 3) := by decide +kernel
theorem dX4_count_151 : decode cX4_count 151 = .ok (.ireturn, 1) := by decide +kernel
theorem dX4_count_152 : decode cX4_count 152 = .ok (.aload_n 0, 1) := by decide +kernel
theorem dX4_count_153 : decode cX4_count 153 = .ok (.getfield 22, 3) := by decide +kernel
theorem dX4_count_156 : decode cX4_count 156 = .ok (.iconst 4, 1) := by decide +kernel
theorem dX4_count_157 : decode cX4_count 157 = .ok (.invokevirtual 140, 3) := by decide +kernel
theorem dX4_count_160 : decode cX4_count 160 = .ok (.ireturn, 1) := by decide +kernel
theorem dX4_count_161 : decode cX4_count 161 = .ok (.aload_n 0, 1) := by decide +kernel
theorem dX4_count_162 : decode cX4_count 162 = .ok (.getfield 22, 3) := by decide +kernel
theorem dX4_count_165 : decode cX4_count 165 = .ok (.getfield 122, 3) := by decide +kernel
theorem dX4_count_168 : decode cX4_count 168 = .ok (.invokestatic 143, 3) := by decide +kernel
theorem dX4_count_171 : decode cX4_count 171 = .ok (.ireturn, 1) := by decide +kernel
theorem dX4_count_172 : decode cX4_count 172 = .ok (.aload_n 0, 1) := by decide +kernel
theorem dX4_count_173 : decode cX4_count 173 = .ok (.getfield 22, 3) := by decide +kernel
theorem dX4_count_176 : decode cX4_count 176 = .ok (.getfield 128, 3) := by decide +kernel
theorem dX4_count_179 : decode cX4_count 179 = .ok (.invokestatic 143, 3) := by decide +kernel
theorem dX4_count_182 : decode cX4_count 182 = .ok (.ireturn, 1) := by decide +kernel
theorem dX4_count_183 : decode cX4_count 183 = .ok (.aload_n 0, 1) := by decide +kernel
theorem dX4_count_184 : decode cX4_count 184 = .ok (.getfield 22, 3) := by decide +kernel
theorem dX4_count_187 : decode cX4_count 187 = .ok (.getfield 131, 3) := by decide +kernel
theorem dX4_count_190 : decode cX4_count 190 = .ok (.invokestatic 143, 3) := by decide +kernel
theorem dX4_count_193 : decode cX4_count 193 = .ok (.ireturn, 1) := by decide +kernel
theorem dX4_count_194 : decode cX4_count 194 = .ok (.aload_n 0, 1) := by decide +kernel
theorem dX4_count_195 : decode cX4_count 195 = .ok (.getfield 22, 3) := by decide +kernel
theorem dX4_count_198 : decode cX4_count 198 = .ok (.invokevirtual 147, 3) := by decide +kernel
theorem dX4_count_201 : decode cX4_count 201 = .ok (.ireturn, 1) := by decide +kernel
theorem dX4_count_202 : decode cX4_count 202 = .ok (.aload_n 0, 1) := by decide +kernel
theorem dX4_count_203 : decode cX4_count 203 = .ok (.getfield 22, 3) := by decide +kernel
theorem dX4_count_206 : decode cX4_count 206 = .ok (.getfield 101, 3) := by decide +kernel
theorem dX4_count_209 : decode cX4_count 209 = .ok (.aload_n 0, 1) := by decide +kernel
theorem dX4_count_210 : decode cX4_count 210 = .ok (.getfield 10, 3) := by decide +kernel
theorem dX4_count_213 : decode cX4_count 213 = .ok (.getfield 112, 3) := by decide +kernel
theorem dX4_count_216 : decode cX4_count 216 = .ok (.invokestatic 108, 3) := by decide +kernel
theorem dX4_count_219 : decode cX4_count 219 = .ok (.ireturn, 1) := by decide +kernel
theorem dX4_count_220 : decode cX4_count 220 = .ok (.aload_n 0, 1) := by decide +kernel
theorem dX4_count_221 : decode cX4_count 221 = .ok (.getfield 22, 3) := by decide +kernel
theorem dX4_count_224 : decode cX4_count 224 = .ok (.getfield 101, 3) := by decide +kernel
theorem dX4_count_227 : decode cX4_count 227 = .ok (.aload_n 0, 1) := by decide +kernel
theorem dX4_count_228 : decode cX4_count 228 = .ok (.getfield 10, 3) := by decide +kernel
theorem dX4_count_231 : decode cX4_count 231 = .ok (.getfield 105, 3) := by decide +kernel
theorem dX4_count_234 : decode cX4_count 234 = .ok (.invokestatic 108, 3) := by decide +kernel
theorem dX4_count_237 : decode cX4_count 237 = .ok (.ireturn, 1) := by decide +kernel
theorem dX4_count_238 : decode cX4_count 238 = .ok (.aload_n 0, 1) := by decide +kernel
theorem dX4_count_239 : decode cX4_count 239 = .ok (.getfield 10, 3) := by decide +kernel
theorem dX4_count_242 : decode cX4_count 242 = .ok (.invokevirtual 95, 3) := by decide +kernel
theorem dX4_count_245 : decode cX4_count 245 = .ok (.ireturn, 1) := by decide +kernel
theorem dX4_count_246 : decode cX4_count 246 = .ok (.aload_n 0, 1) := by decide +kernel
theorem dX4_count_247 : decode cX4_count 247 = .ok (.getfield 32, 3) := by decide +kernel
theorem dX4_count_250 : decode cX4_count 250 = .ok (.getfield 88, 3) := by decide +kernel
theorem dX4_count_253 : decode cX4_count 253 = .ok (.ireturn, 1) := by decide +kernel
theorem dX4_count_254 : decode cX4_count 254 = .ok (.aload_n 0, 1) := by decide +kernel
theorem dX4_count_255 : decode cX4_count 255 = .ok (.getfield 39, 3) := by decide +kernel
theorem dX4_count_258 : decode cX4_count 258 = .ok (.getfield 150, 3) := by decide +kernel
theorem dX4_count_261 : decode cX4_count 261 = .ok (.ireturn, 1) := by decide +kernel
theorem dX4_count_262 : decode cX4_count 262 = .ok (.bipush (-2), 2) := by decide +kernel
theorem dX4_count_264 : decode cX4_count 264 = .ok (.ireturn, 1) := by decide +kernel
set_option maxRecDepth 20000 in
theorem ggX4_row_X4_isRow : GoodIn wsX4_row wsX4_isRow := goodIn_r _ [7] (by decide +kernel) (by decide +kernel)
set_option maxRecDepth 20000 in
theorem gX4_row_X4_isRow : GoodIn wsX4_row (va_wsS RX4 77 yX4_isRow wsX4_isRow) := goodIn_app (goodIn_of _ (by decide +kernel)) ggX4_row_X4_isRow
set_option maxRecDepth 20000 in
theorem ggX4_row_X3_show : GoodIn wsX4_row wsX3_show := goodIn_r _ [12, 13, 14, 15, 11, 16, 17, 18, 19, 20, 21, 22, 23, 24, 25, 26, 27, 6, 28, 29, 30, 31, 32, 33, 34, 35, 36, 37, 38, 39, 40, 41, 42, 43, 44, 45, 46, 47, 48, 49, 50, 51, 52, 53, 54, 55, 56, 57, 58, 59, 60, 61, 62, 63, 64, 65, 66, 67, 68, 69, 70, 71, 72, 73, 74, 75, 76, 77, 78, 79, 80, 81, 82, 83, 84, 85, 86, 87, 88, 89, 90, 91, 92, 93, 94, 95, 96, 97, 98, 99, 117, 118, 119, 120, 121, 107, 108, 109, 110, 111, 112, 113, 114, 115, 116] (by decide +kernel) (by decide +kernel)
set_option maxRecDepth 20000 in
theorem gX4_row_X3_show : GoodIn wsX4_row (wsV RX4 98 RX3 yX3_show wsX3_show) := goodIn_app (goodIn_of _ (by decide +kernel)) ggX4_row_X3_show
theorem dX4_row_0 : decode cX4_row 0 = .ok (.iload_n 1, 1) := by decide +kernel
theorem dX4_row_1 : decode cX4_row 1 = .ok (.invokestatic 77, 3) := by decide +kernel
theorem dX4_row_4 : decode cX4_row 4 = .ok (.ifCond .ne 5, 3) := by decide +kernel
theorem dX4_row_7 : decode cX4_row 7 = .ok (.iconst (-1), 1) := by decide +kernel
theorem dX4_row_8 : decode cX4_row 8 = .ok (.ireturn, 1) := by decide +kernel
theorem dX4_row_9 : decode cX4_row 9 = .ok (.iload_n 2, 1) := by decide +kernel
theorem dX4_row_10 : decode cX4_row 10 = .ok (.ifCond .lt 8, 3) := by decide +kernel
theorem dX4_row_13 : decode cX4_row 13 = .ok (.iload_n 2, 1) := by decide +kernel
theorem dX4_row_14 : decode cX4_row 14 = .ok (.iconst 5, 1) := by decide +kernel
theorem dX4_row_15 : decode cX4_row 15 = .ok (.if_icmp .lt 6, 3) := by decide +kernel
theorem dX4_row_18 : decode cX4_row 18 = .ok (.bipush (-2), 2) := by decide +kernel
theorem dX4_row_20 : decode cX4_row 20 = .ok (.ireturn, 1) := by decide +kernel
theorem dX4_row_21 : decode cX4_row 21 = .ok (.aload_n 0, 1) := by decide +kernel
theorem dX4_row_22 : decode cX4_row 22 = .ok (.getfield 22, 3) := by decide +kernel
theorem dX4_row_25 : decode cX4_row 25 = .ok (.aload_n 0, 1) := by decide +kernel
theorem dX4_row_26 : decode cX4_row 26 = .ok (.getfield 10, 3) := by decide +kernel
theorem dX4_row_29 : decode cX4_row 29 = .ok (.invokevirtual 98, 3) := by decide +kernel
theorem dX4_row_32 : decode cX4_row 32 = .ok (.iconst 0, 1) := by decide +kernel
theorem dX4_row_33 : decode cX4_row 33 = .ok (.istore_n 3, 1) := by decide +kernel
theorem dX4_row_34 : decode cX4_row 34 = .ok (.iconst 0, 1) := by decide +kernel
theorem dX4_row_35 : decode cX4_row 35 = .ok (.istore 4, 2) := by decide +kernel
theorem dX4_row_37 : decode cX4_row 37 = .ok (.iload 4, 2) := by decide +kernel
theorem dX4_row_39 : decode cX4_row 39 = .ok (.bipush 8, 2) := by decide +kernel
theorem dX4_row_41 : decode cX4_row 41 = .ok (.if_icmp .ge 35, 3) := by decide +kernel
theorem dX4_row_44 : decode cX4_row 44 = .ok (.aload_n 0, 1) := by decide +kernel
theorem dX4_row_45 : decode cX4_row 45 = .ok (.getfield 22, 3) := by decide +kernel
theorem dX4_row_48 : decode cX4_row 48 = .ok (.getfield 125, 3) := by decide +kernel
theorem dX4_row_51 : decode cX4_row 51 = .ok (.bipush 8, 2) := by decide +kernel
theorem dX4_row_53 : decode cX4_row 53 = .ok (.iload_n 1, 1) := by decide +kernel
theorem dX4_row_54 : decode cX4_row 54 = .ok (.imul, 1) := by decide +kernel
theorem dX4_row_55 : decode cX4_row 55 = .ok (.iload 4, 2) := by decide +kernel
theorem dX4_row_57 : decode cX4_row 57 = .ok (.iadd, 1) := by decide +kernel
theorem dX4_row_58 : decode cX4_row 58 = .ok (.iaload, 1) := by decide +kernel
theorem dX4_row_59 : decode cX4_row 59 = .ok (.iload_n 2, 1) := by decide +kernel
theorem dX4_row_60 : decode cX4_row 60 = .ok (.if_icmp .ne 10, 3) := by decide +kernel
theorem dX4_row_63 : decode cX4_row 63 = .ok (.iload_n 3, 1) := by decide +kernel
theorem dX4_row_64 : decode cX4_row 64 = .ok (.iconst 1, 1) := by decide +kernel
theorem dX4_row_65 : decode cX4_row 65 = .ok (.iload 4, 2) := by decide +kernel
theorem dX4_row_67 : decode cX4_row 67 = .ok (.ishl, 1) := by decide +kernel
theorem dX4_row_68 : decode cX4_row 68 = .ok (.ior, 1) := by decide +kernel
theorem dX4_row_69 : decode cX4_row 69 = .ok (.istore_n 3, 1) := by decide +kernel
theorem dX4_row_70 : decode cX4_row 70 = .ok (.iinc 4 1, 3) := by decide +kernel
theorem dX4_row_73 : decode cX4_row 73 = .ok (.goto (-36), 3) := by decide +kernel
theorem dX4_row_76 : decode cX4_row 76 = .ok (.iload_n 3, 1) := by decide +kernel
theorem dX4_row_77 : decode cX4_row 77 = .ok (.ireturn, 1) := by decide +kernel
set_option maxRecDepth 20000 in
theorem ggX4_bestScreen_X2_copyFrom : GoodIn wsX4_bestScreen wsX2_copyFrom := goodIn_r _ [10, 11, 12, 13, 14, 15, 16, 17, 18, 19, 81, 82, 83, 84, 85] (by decide +kernel) (by decide +kernel)
set_option maxRecDepth 20000 in
theorem gX4_bestScreen_X2_copyFrom : GoodIn wsX4_bestScreen (wsV RX4 153 RX2 yX2_copyFrom wsX2_copyFrom) := goodIn_app (goodIn_of _ (by decide +kernel)) ggX4_bestScreen_X2_copyFrom
set_option maxRecDepth 20000 in
theorem ggX4_bestScreen_X3_clearPixels : GoodIn wsX4_bestScreen wsX3_clearPixels := goodIn_r _ [24, 25, 26, 27, 28, 29, 23, 30, 31, 32, 33, 34, 35, 9, 36, 16, 19, 37, 38, 39, 40, 41, 42, 43, 44, 45, 46, 47, 48, 49, 50, 51, 52, 53, 54, 55, 56, 57, 58, 59, 60, 61, 62, 63, 64, 65, 66, 67, 68, 69, 70, 71, 72, 73, 86, 87, 88, 89, 90, 91, 92, 93, 94, 95, 81, 82, 83, 84, 85] (by decide +kernel) (by decide +kernel)
set_option maxRecDepth 20000 in
theorem gX4_bestScreen_X3_clearPixels : GoodIn wsX4_bestScreen (wsV RX4 156 RX3 yX3_clearPixels wsX3_clearPixels) := goodIn_app (goodIn_of _ (by decide +kernel)) ggX4_bestScreen_X3_clearPixels
theorem dX4_bestScreen_0 : decode cX4_bestScreen 0 = .ok (.iload_n 1, 1) := by decide +kernel
theorem dX4_bestScreen_1 : decode cX4_bestScreen 1 = .ok (.ifCond .eq 11, 3) := by decide +kernel
theorem dX4_bestScreen_4 : decode cX4_bestScreen 4 = .ok (.iload_n 1, 1) := by decide +kernel
theorem dX4_bestScreen_5 : decode cX4_bestScreen 5 = .ok (.iconst 1, 1) := by decide +kernel
theorem dX4_bestScreen_6 : decode cX4_bestScreen 6 = .ok (.if_icmp .eq 6, 3) := by decide +kernel
theorem dX4_bestScreen_9 : decode cX4_bestScreen 9 = .ok (.bipush (-2), 2) := by decide +kernel
theorem dX4_bestScreen_11 : decode cX4_bestScreen 11 = .ok (.ireturn, 1) := by decide +kernel
theorem dX4_bestScreen_12 : decode cX4_bestScreen 12 = .ok (.aload_n 0, 1) := by decide +kernel
theorem dX4_bestScreen_13 : decode cX4_bestScreen 13 = .ok (.getfield 16, 3) := by decide +kernel
theorem dX4_bestScreen_16 : decode cX4_bestScreen 16 = .ok (.aload_n 0, 1) := by decide +kernel
theorem dX4_bestScreen_17 : decode cX4_bestScreen 17 = .ok (.getfield 10, 3) := by decide +kernel
theorem dX4_bestScreen_20 : decode cX4_bestScreen 20 = .ok (.invokevirtual 153, 3) := by decide +kernel
theorem dX4_bestScreen_23 : decode cX4_bestScreen 23 = .ok (.iconst 0, 1) := by decide +kernel
theorem dX4_bestScreen_24 : decode cX4_bestScreen 24 = .ok (.istore_n 2, 1) := by decide +kernel
theorem dX4_bestScreen_25 : decode cX4_bestScreen 25 = .ok (.iconst (-1), 1) := by decide +kernel
theorem dX4_bestScreen_26 : decode cX4_bestScreen 26 = .ok (.istore_n 3, 1) := by decide +kernel
theorem dX4_bestScreen_27 : decode cX4_bestScreen 27 = .ok (.iconst 0, 1) := by decide +kernel
theorem dX4_bestScreen_28 : decode cX4_bestScreen 28 = .ok (.istore 4, 2) := by decide +kernel
theorem dX4_bestScreen_30 : decode cX4_bestScreen 30 = .ok (.iload 4, 2) := by decide +kernel
theorem dX4_bestScreen_32 : decode cX4_bestScreen 32 = .ok (.bipush 48, 2) := by decide +kernel
theorem dX4_bestScreen_34 : decode cX4_bestScreen 34 = .ok (.if_icmp .ge 51, 3) := by decide +kernel
theorem dX4_bestScreen_37 : decode cX4_bestScreen 37 = .ok (.aload_n 0, 1) := by decide +kernel
theorem dX4_bestScreen_38 : decode cX4_bestScreen 38 = .ok (.getfield 16, 3) := by decide +kernel
theorem dX4_bestScreen_41 : decode cX4_bestScreen 41 = .ok (.aload_n 0, 1) := by decide +kernel
theorem dX4_bestScreen_42 : decode cX4_bestScreen 42 = .ok (.getfield 10, 3) := by decide +kernel
theorem dX4_bestScreen_45 : decode cX4_bestScreen 45 = .ok (.getfield 105, 3) := by decide +kernel
theorem dX4_bestScreen_48 : decode cX4_bestScreen 48 = .ok (.iload 4, 2) := by decide +kernel
theorem dX4_bestScreen_50 : decode cX4_bestScreen 50 = .ok (.iaload, 1) := by decide +kernel
theorem dX4_bestScreen_51 : decode cX4_bestScreen 51 = .ok (.putfield 62, 3) := by decide +kernel
theorem dX4_bestScreen_54 : decode cX4_bestScreen 54 = .ok (.aload_n 0, 1) := by decide +kernel
theorem dX4_bestScreen_55 : decode cX4_bestScreen 55 = .ok (.getfield 26, 3) := by decide +kernel
theorem dX4_bestScreen_58 : decode cX4_bestScreen 58 = .ok (.aload_n 0, 1) := by decide +kernel
theorem dX4_bestScreen_59 : decode cX4_bestScreen 59 = .ok (.getfield 16, 3) := by decide +kernel
theorem dX4_bestScreen_62 : decode cX4_bestScreen 62 = .ok (.invokevirtual 156, 3) := by decide +kernel
theorem dX4_bestScreen_65 : decode cX4_bestScreen 65 = .ok (.istore 5, 2) := by decide +kernel
theorem dX4_bestScreen_67 : decode cX4_bestScreen 67 = .ok (.iload 5, 2) := by decide +kernel
theorem dX4_bestScreen_69 : decode cX4_bestScreen 69 = .ok (.iload_n 3, 1) := by decide +kernel
theorem dX4_bestScreen_70 : decode cX4_bestScreen 70 = .ok (.if_icmp .le 9, 3) := by decide +kernel
theorem dX4_bestScreen_73 : decode cX4_bestScreen 73 = .ok (.iload 4, 2) := by decide +kernel
theorem dX4_bestScreen_75 : decode cX4_bestScreen 75 = .ok (.istore_n 2, 1) := by decide +kernel
theorem dX4_bestScreen_76 : decode cX4_bestScreen 76 = .ok (.iload 5, 2) := by decide +kernel
theorem dX4_bestScreen_78 : decode cX4_bestScreen 78 = .ok (.istore_n 3, 1) := by decide +kernel
theorem dX4_bestScreen_79 : decode cX4_bestScreen 79 = .ok (.iinc 4 1, 3) := by decide +kernel
theorem dX4_bestScreen_82 : decode cX4_bestScreen 82 = .ok (.goto (-52), 3) := by decide +kernel
theorem dX4_bestScreen_85 : decode cX4_bestScreen 85 = .ok (.iload_n 1, 1) := by decide +kernel
theorem dX4_bestScreen_86 : decode cX4_bestScreen 86 = .ok (.ifCond .ne 7, 3) := by decide +kernel
theorem dX4_bestScreen_89 : decode cX4_bestScreen 89 = .ok (.iload_n 2, 1) := by decide +kernel
theorem dX4_bestScreen_90 : decode cX4_bestScreen 90 = .ok (.goto 4, 3) := by decide +kernel
theorem dX4_bestScreen_93 : decode cX4_bestScreen 93 = .ok (.iload_n 3, 1) := by decide +kernel
theorem dX4_bestScreen_94 : decode cX4_bestScreen 94 = .ok (.ireturn, 1) := by decide +kernel
set_option maxRecDepth 20000 in
theorem ggX4_leastNear_X4_isPixel : GoodIn wsX4_leastNear wsX4_isPixel := goodIn_r _ [6] (by decide +kernel) (by decide +kernel)
set_option maxRecDepth 20000 in
theorem gX4_leastNear_X4_isPixel : GoodIn wsX4_leastNear (va_wsS RX4 66 yX4_isPixel wsX4_isPixel) := goodIn_app (goodIn_of _ (by decide +kernel)) ggX4_leastNear_X4_isPixel
set_option maxRecDepth 20000 in
theorem ggX4_leastNear_X2_distanceOf : GoodIn wsX4_leastNear wsX2_distanceOf := goodIn_r _ [11, 12, 13, 4, 5, 6, 14, 15, 16, 17, 18, 19, 20, 21, 22, 23, 24, 25, 33, 34, 35, 36, 37] (by decide +kernel) (by decide +kernel)
set_option maxRecDepth 20000 in
theorem gX4_leastNear_X2_distanceOf : GoodIn wsX4_leastNear (wsV RX4 115 RX2 yX2_distanceOf wsX2_distanceOf) := goodIn_app (goodIn_of _ (by decide +kernel)) ggX4_leastNear_X2_distanceOf
theorem dX4_leastNear_0 : decode cX4_leastNear 0 = .ok (.iload_n 1, 1) := by decide +kernel
theorem dX4_leastNear_1 : decode cX4_leastNear 1 = .ok (.invokestatic 66, 3) := by decide +kernel
theorem dX4_leastNear_4 : decode cX4_leastNear 4 = .ok (.ifCond .ne 5, 3) := by decide +kernel
theorem dX4_leastNear_7 : decode cX4_leastNear 7 = .ok (.iconst (-1), 1) := by decide +kernel
theorem dX4_leastNear_8 : decode cX4_leastNear 8 = .ok (.ireturn, 1) := by decide +kernel
theorem dX4_leastNear_9 : decode cX4_leastNear 9 = .ok (.aload_n 0, 1) := by decide +kernel
theorem dX4_leastNear_10 : decode cX4_leastNear 10 = .ok (.getfield 10, 3) := by decide +kernel
theorem dX4_leastNear_13 : decode cX4_leastNear 13 = .ok (.iload_n 1, 1) := by decide +kernel
theorem dX4_leastNear_14 : decode cX4_leastNear 14 = .ok (.invokevirtual 115, 3) := by decide +kernel
theorem dX4_leastNear_17 : decode cX4_leastNear 17 = .ok (.istore_n 2, 1) := by decide +kernel
theorem dX4_leastNear_18 : decode cX4_leastNear 18 = .ok (.iload_n 2, 1) := by decide +kernel
theorem dX4_leastNear_19 : decode cX4_leastNear 19 = .ok (.aload_n 0, 1) := by decide +kernel
theorem dX4_leastNear_20 : decode cX4_leastNear 20 = .ok (.getfield 10, 3) := by decide +kernel
theorem dX4_leastNear_23 : decode cX4_leastNear 23 = .ok (.getfield 137, 3) := by decide +kernel
theorem dX4_leastNear_26 : decode cX4_leastNear 26 = .ok (.iconst 1, 1) := by decide +kernel
theorem dX4_leastNear_27 : decode cX4_leastNear 27 = .ok (.iaload, 1) := by decide +kernel
theorem dX4_leastNear_28 : decode cX4_leastNear 28 = .ok (.if_icmp .ge 7, 3) := by decide +kernel
theorem dX4_leastNear_31 : decode cX4_leastNear 31 = .ok (.iload_n 2, 1) := by decide +kernel
theorem dX4_leastNear_32 : decode cX4_leastNear 32 = .ok (.goto 5, 3) := by decide +kernel
theorem dX4_leastNear_35 : decode cX4_leastNear 35 = .ok (.bipush (-6), 2) := by decide +kernel
theorem dX4_leastNear_37 : decode cX4_leastNear 37 = .ok (.ireturn, 1) := by decide +kernel
set_option maxRecDepth 20000 in
theorem ggX4_ifSet_X4_errorOfSetting : GoodIn wsX4_ifSet wsX4_errorOfSetting := goodIn_r _ [10, 11, 2, 12, 13, 14, 9, 15, 126, 127, 128, 129, 130, 131, 132, 143, 144, 145, 146, 147] (by decide +kernel) (by decide +kernel)
set_option maxRecDepth 20000 in
theorem gX4_ifSet_X4_errorOfSetting : GoodIn wsX4_ifSet (wsV RX4 47 RX4 yX4_errorOfSetting wsX4_errorOfSetting) := goodIn_app (goodIn_of _ (by decide +kernel)) ggX4_ifSet_X4_errorOfSetting
set_option maxRecDepth 20000 in
theorem ggX4_ifSet_X2_copyFrom : GoodIn wsX4_ifSet wsX2_copyFrom := goodIn_r _ [20, 21, 22, 23, 24, 25, 26, 27, 28, 29, 143, 144, 145, 146, 147] (by decide +kernel) (by decide +kernel)
set_option maxRecDepth 20000 in
theorem gX4_ifSet_X2_copyFrom : GoodIn wsX4_ifSet (wsV RX4 153 RX2 yX2_copyFrom wsX2_copyFrom) := goodIn_app (goodIn_of _ (by decide +kernel)) ggX4_ifSet_X2_copyFrom
set_option maxRecDepth 20000 in
theorem ggX4_ifSet_X2_changeSetting : GoodIn wsX4_ifSet wsX2_changeSetting := goodIn_r _ [33, 21, 14, 9, 15, 143, 144, 145, 146, 147] (by decide +kernel) (by decide +kernel)
set_option maxRecDepth 20000 in
theorem gX4_ifSet_X2_changeSetting : GoodIn wsX4_ifSet (wsV RX4 55 RX2 yX2_changeSetting wsX2_changeSetting) := goodIn_app (goodIn_of _ (by decide +kernel)) ggX4_ifSet_X2_changeSetting
set_option maxRecDepth 20000 in
theorem ggX4_ifSet_X3_show : GoodIn wsX4_ifSet wsX3_show := goodIn_r _ [38, 39, 40, 41, 37, 42, 43, 44, 45, 46, 47, 48, 19, 49, 26, 29, 50, 9, 51, 52, 53, 54, 55, 56, 57, 58, 59, 60, 61, 62, 63, 64, 65, 66, 67, 68, 69, 70, 71, 72, 73, 74, 75, 76, 77, 78, 79, 80, 81, 82, 83, 84, 85, 86, 87, 88, 89, 90, 91, 92, 93, 94, 95, 96, 97, 98, 99, 100, 101, 102, 103, 104, 105, 106, 107, 108, 109, 110, 111, 112, 113, 114, 115, 116, 117, 118, 119, 120, 121, 122, 143, 144, 145, 146, 147, 133, 134, 135, 136, 137, 138, 139, 140, 141, 142] (by decide +kernel) (by decide +kernel)
set_option maxRecDepth 20000 in
theorem gX4_ifSet_X3_show : GoodIn wsX4_ifSet (wsV RX4 98 RX3 yX3_show wsX3_show) := goodIn_app (goodIn_of _ (by decide +kernel)) ggX4_ifSet_X3_show
set_option maxRecDepth 20000 in
theorem ggX4_ifSet_X4_sameColours : GoodIn wsX4_ifSet wsX4_sameColours := goodIn_r _ [125] (by decide +kernel) (by decide +kernel)
set_option maxRecDepth 20000 in
theorem gX4_ifSet_X4_sameColours : GoodIn wsX4_ifSet (va_wsS RX4 108 yX4_sameColours wsX4_sameColours) := goodIn_app (goodIn_of _ (by decide +kernel)) ggX4_ifSet_X4_sameColours
theorem dX4_ifSet_0 : decode cX4_ifSet 0 = .ok (.aload_n 0, 1) := by decide +kernel
theorem dX4_ifSet_1 : decode cX4_ifSet 1 = .ok (.iload_n 1, 1) := by decide +kernel
theorem dX4_ifSet_2 : decode cX4_ifSet 2 = .ok (.iload_n 2, 1) := by decide +kernel
theorem dX4_ifSet_3 : decode cX4_ifSet 3 = .ok (.invokevirtual 47, 3) := by decide +kernel
theorem dX4_ifSet_6 : decode cX4_ifSet 6 = .ok (.istore_n 3, 1) := by decide +kernel
theorem dX4_ifSet_7 : decode cX4_ifSet 7 = .ok (.iload_n 3, 1) := by decide +kernel
theorem dX4_ifSet_8 : decode cX4_ifSet 8 = .ok (.ifCond .eq 5, 3) := by decide +kernel
theorem dX4_ifSet_11 : decode cX4_ifSet 11 = .ok (.iload_n 3, 1) := by decide +kernel
theorem dX4_ifSet_12 : decode cX4_ifSet 12 = .ok (.ireturn, 1) := by decide +kernel
theorem dX4_ifSet_13 : decode cX4_ifSet 13 = .ok (.aload_n 0, 1) := by decide +kernel
theorem dX4_ifSet_14 : decode cX4_ifSet 14 = .ok (.getfield 16, 3) := by decide +kernel
theorem dX4_ifSet_17 : decode cX4_ifSet 17 = .ok (.aload_n 0, 1) := by decide +kernel
theorem dX4_ifSet_18 : decode cX4_ifSet 18 = .ok (.getfield 10, 3) := by decide +kernel
theorem dX4_ifSet_21 : decode cX4_ifSet 21 = .ok (.invokevirtual 153, 3) := by decide +kernel
theorem dX4_ifSet_24 : decode cX4_ifSet 24 = .ok (.aload_n 0, 1) := by decide +kernel
theorem dX4_ifSet_25 : decode cX4_ifSet 25 = .ok (.getfield 16, 3) := by decide +kernel
theorem dX4_ifSet_28 : decode cX4_ifSet 28 = .ok (.iload_n 1, 1) := by decide +kernel
theorem dX4_ifSet_29 : decode cX4_ifSet 29 = .ok (.iload_n 2, 1) := by decide +kernel
theorem dX4_ifSet_30 : decode cX4_ifSet 30 = .ok (.invokevirtual 55, 3) := by decide +kernel
theorem dX4_ifSet_33 : decode cX4_ifSet 33 = .ok (.pop, 1) := by decide +kernel
theorem dX4_ifSet_34 : decode cX4_ifSet 34 = .ok (.aload_n 0, 1) := by decide +kernel
theorem dX4_ifSet_35 : decode cX4_ifSet 35 = .ok (.getfield 22, 3) := by decide +kernel
theorem dX4_ifSet_38 : decode cX4_ifSet 38 = .ok (.aload_n 0, 1) := by decide +kernel
theorem dX4_ifSet_39 : decode cX4_ifSet 39 = .ok (.getfield 10, 3) := by decide +kernel
theorem dX4_ifSet_42 : decode cX4_ifSet 42 = .ok (.invokevirtual 98, 3) := by decide +kernel
theorem dX4_ifSet_45 : decode cX4_ifSet 45 = .ok (.aload_n 0, 1) := by decide +kernel
theorem dX4_ifSet_46 : decode cX4_ifSet 46 = .ok (.getfield 26, 3) := by decide +kernel
theorem dX4_ifSet_49 : decode cX4_ifSet 49 = .ok (.aload_n 0, 1) := by decide +kernel
theorem dX4_ifSet_50 : decode cX4_ifSet 50 = .ok (.getfield 16, 3) := by decide +kernel
theorem dX4_ifSet_53 : decode cX4_ifSet 53 = .ok (.invokevirtual 98, 3) := by decide +kernel
theorem dX4_ifSet_56 : decode cX4_ifSet 56 = .ok (.bipush 48, 2) := by decide +kernel
theorem dX4_ifSet_58 : decode cX4_ifSet 58 = .ok (.aload_n 0, 1) := by decide +kernel
theorem dX4_ifSet_59 : decode cX4_ifSet 59 = .ok (.getfield 22, 3) := by decide +kernel
theorem dX4_ifSet_62 : decode cX4_ifSet 62 = .ok (.getfield 101, 3) := by decide +kernel
theorem dX4_ifSet_65 : decode cX4_ifSet 65 = .ok (.aload_n 0, 1) := by decide +kernel
theorem dX4_ifSet_66 : decode cX4_ifSet 66 = .ok (.getfield 26, 3) := by decide +kernel
theorem dX4_ifSet_69 : decode cX4_ifSet 69 = .ok (.getfield 101, 3) := by decide +kernel
theorem dX4_ifSet_72 : decode cX4_ifSet 72 = .ok (.invokestatic 108, 3) := by decide +kernel
theorem dX4_ifSet_75 : decode cX4_ifSet 75 = .ok (.isub, 1) := by decide +kernel
theorem dX4_ifSet_76 : decode cX4_ifSet 76 = .ok (.ireturn, 1) := by decide +kernel
set_option maxRecDepth 20000 in
theorem ggX4_bestShare_X2_copyFrom : GoodIn wsX4_bestShare wsX2_copyFrom := goodIn_r _ [8, 9, 10, 11, 12, 13, 14, 15, 16, 17, 125, 126, 127, 128, 129] (by decide +kernel) (by decide +kernel)
set_option maxRecDepth 20000 in
theorem gX4_bestShare_X2_copyFrom : GoodIn wsX4_bestShare (wsV RX4 153 RX2 yX2_copyFrom wsX2_copyFrom) := goodIn_app (goodIn_of _ (by decide +kernel)) ggX4_bestShare_X2_copyFrom
set_option maxRecDepth 20000 in
theorem ggX4_bestShare_X2_changeSetting : GoodIn wsX4_bestShare wsX2_changeSetting := goodIn_r _ [21, 9, 22, 23, 24, 125, 126, 127, 128, 129] (by decide +kernel) (by decide +kernel)
set_option maxRecDepth 20000 in
theorem gX4_bestShare_X2_changeSetting : GoodIn wsX4_bestShare (wsV RX4 55 RX2 yX2_changeSetting wsX2_changeSetting) := goodIn_app (goodIn_of _ (by decide +kernel)) ggX4_bestShare_X2_changeSetting
set_option maxRecDepth 20000 in
theorem ggX4_bestShare_X3_show : GoodIn wsX4_bestShare wsX3_show := goodIn_r _ [29, 30, 31, 32, 28, 33, 34, 35, 36, 37, 38, 39, 7, 40, 14, 17, 41, 23, 42, 43, 44, 45, 46, 47, 48, 49, 50, 51, 52, 53, 54, 55, 56, 57, 58, 59, 60, 61, 62, 63, 64, 65, 66, 67, 68, 69, 70, 71, 72, 73, 74, 75, 76, 77, 78, 79, 80, 81, 82, 83, 84, 85, 86, 87, 88, 89, 90, 91, 92, 93, 94, 95, 96, 97, 98, 99, 100, 101, 102, 103, 104, 105, 106, 107, 108, 109, 110, 111, 112, 113, 125, 126, 127, 128, 129, 130, 131, 132, 133, 134, 135, 136, 137, 138, 139] (by decide +kernel) (by decide +kernel)
set_option maxRecDepth 20000 in
theorem gX4_bestShare_X3_show : GoodIn wsX4_bestShare (wsV RX4 98 RX3 yX3_show wsX3_show) := goodIn_app (goodIn_of _ (by decide +kernel)) ggX4_bestShare_X3_show
set_option maxRecDepth 20000 in
theorem ggX4_bestShare_X3_spillLeft : GoodIn wsX4_bestShare wsX3_spillLeft := goodIn_r _ [117, 95, 100, 102, 23, 103, 49, 50, 51, 52, 53, 54, 104, 105, 106, 107, 47, 108, 125, 126, 127, 128, 129, 130, 131, 132, 133, 134, 135, 136, 137, 138, 139] (by decide +kernel) (by decide +kernel)
set_option maxRecDepth 20000 in
theorem gX4_bestShare_X3_spillLeft : GoodIn wsX4_bestShare (wsV RX4 160 RX3 yX3_spillLeft wsX3_spillLeft) := goodIn_app (goodIn_of _ (by decide +kernel)) ggX4_bestShare_X3_spillLeft
theorem dX4_bestShare_0 : decode cX4_bestShare 0 = .ok (.iload_n 1, 1) := by decide +kernel
theorem dX4_bestShare_1 : decode cX4_bestShare 1 = .ok (.iconst 2, 1) := by decide +kernel
theorem dX4_bestShare_2 : decode cX4_bestShare 2 = .ok (.if_icmp .eq 13, 3) := by decide +kernel
theorem dX4_bestShare_5 : decode cX4_bestShare 5 = .ok (.iload_n 1, 1) := by decide +kernel
theorem dX4_bestShare_6 : decode cX4_bestShare 6 = .ok (.iconst 3, 1) := by decide +kernel
theorem dX4_bestShare_7 : decode cX4_bestShare 7 = .ok (.if_icmp .eq 8, 3) := by decide +kernel
theorem dX4_bestShare_10 : decode cX4_bestShare 10 = .ok (.iload_n 1, 1) := by decide +kernel
theorem dX4_bestShare_11 : decode cX4_bestShare 11 = .ok (.iconst 4, 1) := by decide +kernel
theorem dX4_bestShare_12 : decode cX4_bestShare 12 = .ok (.if_icmp .ne 7, 3) := by decide +kernel
theorem dX4_bestShare_15 : decode cX4_bestShare 15 = .ok (.iconst 1, 1) := by decide +kernel
theorem dX4_bestShare_16 : decode cX4_bestShare 16 = .ok (.goto 4, 3) := by decide +kernel
theorem dX4_bestShare_19 : decode cX4_bestShare 19 = .ok (.iconst 0, 1) := by decide +kernel
theorem dX4_bestShare_20 : decode cX4_bestShare 20 = .ok (.istore_n 3, 1) := by decide +kernel
theorem dX4_bestShare_21 : decode cX4_bestShare 21 = .ok (.iload_n 3, 1) := by decide +kernel
theorem dX4_bestShare_22 : decode cX4_bestShare 22 = .ok (.ifCond .eq 12, 3) := by decide +kernel
theorem dX4_bestShare_25 : decode cX4_bestShare 25 = .ok (.iload_n 2, 1) := by decide +kernel
theorem dX4_bestShare_26 : decode cX4_bestShare 26 = .ok (.ifCond .eq 11, 3) := by decide +kernel
theorem dX4_bestShare_29 : decode cX4_bestShare 29 = .ok (.iload_n 2, 1) := by decide +kernel
theorem dX4_bestShare_30 : decode cX4_bestShare 30 = .ok (.iconst 1, 1) := by decide +kernel
theorem dX4_bestShare_31 : decode cX4_bestShare 31 = .ok (.if_icmp .eq 6, 3) := by decide +kernel
theorem dX4_bestShare_34 : decode cX4_bestShare 34 = .ok (.bipush (-2), 2) := by decide +kernel
theorem dX4_bestShare_36 : decode cX4_bestShare 36 = .ok (.ireturn, 1) := by decide +kernel
theorem dX4_bestShare_37 : decode cX4_bestShare 37 = .ok (.aload_n 0, 1) := by decide +kernel
theorem dX4_bestShare_38 : decode cX4_bestShare 38 = .ok (.getfield 16, 3) := by decide +kernel
theorem dX4_bestShare_41 : decode cX4_bestShare 41 = .ok (.aload_n 0, 1) := by decide +kernel
theorem dX4_bestShare_42 : decode cX4_bestShare 42 = .ok (.getfield 10, 3) := by decide +kernel
theorem dX4_bestShare_45 : decode cX4_bestShare 45 = .ok (.invokevirtual 153, 3) := by decide +kernel
theorem dX4_bestShare_48 : decode cX4_bestShare 48 = .ok (.iconst 0, 1) := by decide +kernel
theorem dX4_bestShare_49 : decode cX4_bestShare 49 = .ok (.istore 4, 2) := by decide +kernel
theorem dX4_bestShare_51 : decode cX4_bestShare 51 = .ok (.iconst 0, 1) := by decide +kernel
theorem dX4_bestShare_52 : decode cX4_bestShare 52 = .ok (.istore 5, 2) := by decide +kernel
theorem dX4_bestShare_54 : decode cX4_bestShare 54 = .ok (.iconst 0, 1) := by decide +kernel
theorem dX4_bestShare_55 : decode cX4_bestShare 55 = .ok (.istore 6, 2) := by decide +kernel
theorem dX4_bestShare_57 : decode cX4_bestShare 57 = .ok (.iload 6, 2) := by decide +kernel
theorem dX4_bestShare_59 : decode cX4_bestShare 59 = .ok (.bipush 16, 2) := by decide +kernel
theorem dX4_bestShare_61 : decode cX4_bestShare 61 = .ok (.if_icmp .gt 64, 3) := by decide +kernel
theorem dX4_bestShare_64 : decode cX4_bestShare 64 = .ok (.aload_n 0, 1) := by decide +kernel
theorem dX4_bestShare_65 : decode cX4_bestShare 65 = .ok (.getfield 16, 3) := by decide +kernel
theorem dX4_bestShare_68 : decode cX4_bestShare 68 = .ok (.iload_n 1, 1) := by decide +kernel
theorem dX4_bestShare_69 : decode cX4_bestShare 69 = .ok (.iload 6, 2) := by decide +kernel
theorem dX4_bestShare_71 : decode cX4_bestShare 71 = .ok (.invokevirtual 55, 3) := by decide +kernel
theorem dX4_bestShare_74 : decode cX4_bestShare 74 = .ok (.pop, 1) := by decide +kernel
theorem dX4_bestShare_75 : decode cX4_bestShare 75 = .ok (.aload_n 0, 1) := by decide +kernel
theorem dX4_bestShare_76 : decode cX4_bestShare 76 = .ok (.getfield 26, 3) := by decide +kernel
theorem dX4_bestShare_79 : decode cX4_bestShare 79 = .ok (.aload_n 0, 1) := by decide +kernel
theorem dX4_bestShare_80 : decode cX4_bestShare 80 = .ok (.getfield 16, 3) := by decide +kernel
theorem dX4_bestShare_83 : decode cX4_bestShare 83 = .ok (.invokevirtual 98, 3) := by decide +kernel
theorem dX4_bestShare_86 : decode cX4_bestShare 86 = .ok (.aload_n 0, 1) := by decide +kernel
theorem dX4_bestShare_87 : decode cX4_bestShare 87 = .ok (.getfield 26, 3) := by decide +kernel
theorem dX4_bestShare_90 : decode cX4_bestShare 90 = .ok (.aload_n 0, 1) := by decide +kernel
theorem dX4_bestShare_91 : decode cX4_bestShare 91 = .ok (.getfield 16, 3) := by decide +kernel
theorem dX4_bestShare_94 : decode cX4_bestShare 94 = .ok (.invokevirtual 160, 3) := by decide +kernel
theorem dX4_bestShare_97 : decode cX4_bestShare 97 = .ok (.istore 7, 2) := by decide +kernel
theorem dX4_bestShare_99 : decode cX4_bestShare 99 = .ok (.iload 6, 2) := by decide +kernel
theorem dX4_bestShare_101 : decode cX4_bestShare 101 = .ok (.ifCond .eq 10, 3) := by decide +kernel
theorem dX4_bestShare_104 : decode cX4_bestShare 104 = .ok (.iload 7, 2) := by decide +kernel
theorem dX4_bestShare_106 : decode cX4_bestShare 106 = .ok (.iload 5, 2) := by decide +kernel
theorem dX4_bestShare_108 : decode cX4_bestShare 108 = .ok (.if_icmp .ge 11, 3) := by decide +kernel
theorem dX4_bestShare_111 : decode cX4_bestShare 111 = .ok (.iload 6, 2) := by decide +kernel
theorem dX4_bestShare_113 : decode cX4_bestShare 113 = .ok (.istore 4, 2) := by decide +kernel
theorem dX4_bestShare_115 : decode cX4_bestShare 115 = .ok (.iload 7, 2) := by decide +kernel
theorem dX4_bestShare_117 : decode cX4_bestShare 117 = .ok (.istore 5, 2) := by decide +kernel
theorem dX4_bestShare_119 : decode cX4_bestShare 119 = .ok (.iinc 6 1, 3) := by decide +kernel
theorem dX4_bestShare_122 : decode cX4_bestShare 122 = .ok (.goto (-65), 3) := by decide +kernel
theorem dX4_bestShare_125 : decode cX4_bestShare 125 = .ok (.iload_n 2, 1) := by decide +kernel
theorem dX4_bestShare_126 : decode cX4_bestShare 126 = .ok (.ifCond .ne 8, 3) := by decide +kernel
theorem dX4_bestShare_129 : decode cX4_bestShare 129 = .ok (.iload 4, 2) := by decide +kernel
theorem dX4_bestShare_131 : decode cX4_bestShare 131 = .ok (.goto 5, 3) := by decide +kernel
theorem dX4_bestShare_134 : decode cX4_bestShare 134 = .ok (.iload 5, 2) := by decide +kernel
theorem dX4_bestShare_136 : decode cX4_bestShare 136 = .ok (.ireturn, 1) := by decide +kernel
set_option maxRecDepth 20000 in
theorem ggX4_put_X4_charactersIn : GoodIn wsX4_put wsX4_charactersIn := goodIn_r _ [6, 7] (by decide +kernel) (by decide +kernel)
set_option maxRecDepth 20000 in
theorem gX4_put_X4_charactersIn : GoodIn wsX4_put (va_wsS RX4 163 yX4_charactersIn wsX4_charactersIn) := goodIn_app (goodIn_of _ (by decide +kernel)) ggX4_put_X4_charactersIn
set_option maxRecDepth 20000 in
theorem ggX4_put_X1_append : GoodIn wsX4_put wsX1_append := goodIn_r _ [12, 13, 14, 15, 23, 24] (by decide +kernel) (by decide +kernel)
set_option maxRecDepth 20000 in
theorem gX4_put_X1_append : GoodIn wsX4_put (wsV RX4 167 RX1 yX1_append wsX1_append) := goodIn_app (goodIn_of _ (by decide +kernel)) ggX4_put_X1_append
theorem dX4_put_0 : decode cX4_put 0 = .ok (.lload_n 1, 1) := by decide +kernel
theorem dX4_put_1 : decode cX4_put 1 = .ok (.invokestatic 163, 3) := by decide +kernel
theorem dX4_put_4 : decode cX4_put 4 = .ok (.istore_n 3, 1) := by decide +kernel
theorem dX4_put_5 : decode cX4_put 5 = .ok (.iload_n 3, 1) := by decide +kernel
theorem dX4_put_6 : decode cX4_put 6 = .ok (.ifCond .ne 6, 3) := by decide +kernel
theorem dX4_put_9 : decode cX4_put 9 = .ok (.bipush (-2), 2) := by decide +kernel
theorem dX4_put_11 : decode cX4_put 11 = .ok (.ireturn, 1) := by decide +kernel
theorem dX4_put_12 : decode cX4_put 12 = .ok (.aload_n 0, 1) := by decide +kernel
theorem dX4_put_13 : decode cX4_put 13 = .ok (.getfield 32, 3) := by decide +kernel
theorem dX4_put_16 : decode cX4_put 16 = .ok (.getfield 88, 3) := by decide +kernel
theorem dX4_put_19 : decode cX4_put 19 = .ok (.iload_n 3, 1) := by decide +kernel
theorem dX4_put_20 : decode cX4_put 20 = .ok (.iadd, 1) := by decide +kernel
theorem dX4_put_21 : decode cX4_put 21 = .ok (.bipush 48, 2) := by decide +kernel
theorem dX4_put_23 : decode cX4_put 23 = .ok (.if_icmp .le 6, 3) := by decide +kernel
theorem dX4_put_26 : decode cX4_put 26 = .ok (.bipush (-4), 2) := by decide +kernel
theorem dX4_put_28 : decode cX4_put 28 = .ok (.ireturn, 1) := by decide +kernel
theorem dX4_put_29 : decode cX4_put 29 = .ok (.aload_n 0, 1) := by decide +kernel
theorem dX4_put_30 : decode cX4_put 30 = .ok (.getfield 32, 3) := by decide +kernel
theorem dX4_put_33 : decode cX4_put 33 = .ok (.lload_n 1, 1) := by decide +kernel
theorem dX4_put_34 : decode cX4_put 34 = .ok (.iload_n 3, 1) := by decide +kernel
theorem dX4_put_35 : decode cX4_put 35 = .ok (.invokevirtual 167, 3) := by decide +kernel
theorem dX4_put_38 : decode cX4_put 38 = .ok (.aload_n 0, 1) := by decide +kernel
theorem dX4_put_39 : decode cX4_put 39 = .ok (.getfield 32, 3) := by decide +kernel
theorem dX4_put_42 : decode cX4_put 42 = .ok (.getfield 88, 3) := by decide +kernel
theorem dX4_put_45 : decode cX4_put 45 = .ok (.ireturn, 1) := by decide +kernel
theorem dX4_wipe_0 : decode cX4_wipe 0 = .ok (.aload_n 0, 1) := by decide +kernel
theorem dX4_wipe_1 : decode cX4_wipe 1 = .ok (.getfield 32, 3) := by decide +kernel
theorem dX4_wipe_4 : decode cX4_wipe 4 = .ok (.getfield 88, 3) := by decide +kernel
theorem dX4_wipe_7 : decode cX4_wipe 7 = .ok (.istore_n 1, 1) := by decide +kernel
theorem dX4_wipe_8 : decode cX4_wipe 8 = .ok (.aload_n 0, 1) := by decide +kernel
theorem dX4_wipe_9 : decode cX4_wipe 9 = .ok (.getfield 32, 3) := by decide +kernel
theorem dX4_wipe_12 : decode cX4_wipe 12 = .ok (.iconst 0, 1) := by decide +kernel
theorem dX4_wipe_13 : decode cX4_wipe 13 = .ok (.putfield 88, 3) := by decide +kernel
theorem dX4_wipe_16 : decode cX4_wipe 16 = .ok (.iload_n 1, 1) := by decide +kernel
theorem dX4_wipe_17 : decode cX4_wipe 17 = .ok (.ireturn, 1) := by decide +kernel
set_option maxRecDepth 20000 in
theorem ggX4_undo_X0_takeBack : GoodIn wsX4_undo wsX0_takeBack := goodIn_r _ [8, 9, 10, 11, 12, 13, 14, 15, 16, 17, 18, 19, 20, 21, 22, 23, 24, 25, 26, 27, 28, 29, 37, 38, 39, 40, 41, 42, 43, 44] (by decide +kernel) (by decide +kernel)
set_option maxRecDepth 20000 in
theorem gX4_undo_X0_takeBack : GoodIn wsX4_undo (wsV RX4 171 RX0 yX0_takeBack wsX0_takeBack) := goodIn_app (goodIn_of _ (by decide +kernel)) ggX4_undo_X0_takeBack
theorem dX4_undo_0 : decode cX4_undo 0 = .ok (.aload_n 0, 1) := by decide +kernel
theorem dX4_undo_1 : decode cX4_undo 1 = .ok (.getfield 39, 3) := by decide +kernel
theorem dX4_undo_4 : decode cX4_undo 4 = .ok (.getfield 150, 3) := by decide +kernel
theorem dX4_undo_7 : decode cX4_undo 7 = .ok (.ifCond .ne 6, 3) := by decide +kernel
theorem dX4_undo_10 : decode cX4_undo 10 = .ok (.bipush (-5), 2) := by decide +kernel
theorem dX4_undo_12 : decode cX4_undo 12 = .ok (.ireturn, 1) := by decide +kernel
theorem dX4_undo_13 : decode cX4_undo 13 = .ok (.aload_n 0, 1) := by decide +kernel
theorem dX4_undo_14 : decode cX4_undo 14 = .ok (.getfield 39, 3) := by decide +kernel
theorem dX4_undo_17 : decode cX4_undo 17 = .ok (.aload_n 0, 1) := by decide +kernel
theorem dX4_undo_18 : decode cX4_undo 18 = .ok (.getfield 10, 3) := by decide +kernel
theorem dX4_undo_21 : decode cX4_undo 21 = .ok (.invokevirtual 171, 3) := by decide +kernel
theorem dX4_undo_24 : decode cX4_undo 24 = .ok (.aload_n 0, 1) := by decide +kernel
theorem dX4_undo_25 : decode cX4_undo 25 = .ok (.getfield 39, 3) := by decide +kernel
theorem dX4_undo_28 : decode cX4_undo 28 = .ok (.getfield 150, 3) := by decide +kernel
theorem dX4_undo_31 : decode cX4_undo 31 = .ok (.ireturn, 1) := by decide +kernel
set_option maxRecDepth 20000 in
theorem ggX4_save_X4_isSlot : GoodIn wsX4_save wsX4_isSlot := goodIn_r _ [9] (by decide +kernel) (by decide +kernel)
set_option maxRecDepth 20000 in
theorem gX4_save_X4_isSlot : GoodIn wsX4_save (va_wsS RX4 174 yX4_isSlot wsX4_isSlot) := goodIn_app (goodIn_of _ (by decide +kernel)) ggX4_save_X4_isSlot
set_option maxRecDepth 20000 in
theorem ggX4_save_X2_init : GoodIn wsX4_save wsX2_init := goodIn_r _ [12, 13, 14, 15, 16, 17, 18, 19, 20, 21, 22, 23, 24, 25, 26, 42, 43, 44, 45, 46] (by decide +kernel) (by decide +kernel)
set_option maxRecDepth 20000 in
theorem gX4_save_X2_init : GoodIn wsX4_save (wsX2_init) := ggX4_save_X2_init
set_option maxRecDepth 20000 in
theorem ggX4_save_X2_copyFrom : GoodIn wsX4_save wsX2_copyFrom := goodIn_r _ [30, 17, 23, 24, 25, 26, 18, 19, 21, 22, 42, 43, 44, 45, 46] (by decide +kernel) (by decide +kernel)
set_option maxRecDepth 20000 in
theorem gX4_save_X2_copyFrom : GoodIn wsX4_save (wsV RX4 153 RX2 yX2_copyFrom wsX2_copyFrom) := goodIn_app (goodIn_of _ (by decide +kernel)) ggX4_save_X2_copyFrom
set_option maxRecDepth 20000 in
theorem ggX4_save_X2_marked : GoodIn wsX4_save wsX2_marked := goodIn_r _ [34, 21, 42, 43, 44, 45, 46] (by decide +kernel) (by decide +kernel)
set_option maxRecDepth 20000 in
theorem gX4_save_X2_marked : GoodIn wsX4_save (wsV RX4 95 RX2 yX2_marked wsX2_marked) := goodIn_app (goodIn_of _ (by decide +kernel)) ggX4_save_X2_marked
theorem dX4_save_0 : decode cX4_save 0 = .ok (.iload_n 1, 1) := by decide +kernel
theorem dX4_save_1 : decode cX4_save 1 = .ok (.invokestatic 174, 3) := by decide +kernel
theorem dX4_save_4 : decode cX4_save 4 = .ok (.ifCond .ne 6, 3) := by decide +kernel
theorem dX4_save_7 : decode cX4_save 7 = .ok (.bipush (-2), 2) := by decide +kernel
theorem dX4_save_9 : decode cX4_save 9 = .ok (.ireturn, 1) := by decide +kernel
theorem dX4_save_10 : decode cX4_save 10 = .ok (.aload_n 0, 1) := by decide +kernel
theorem dX4_save_11 : decode cX4_save 11 = .ok (.getfield 43, 3) := by decide +kernel
theorem dX4_save_14 : decode cX4_save 14 = .ok (.iload_n 1, 1) := by decide +kernel
theorem dX4_save_15 : decode cX4_save 15 = .ok (.aaload, 1) := by decide +kernel
theorem dX4_save_16 : decode cX4_save 16 = .ok (.astore_n 2, 1) := by decide +kernel
theorem dX4_save_17 : decode cX4_save 17 = .ok (.aload_n 2, 1) := by decide +kernel
theorem dX4_save_18 : decode cX4_save 18 = .ok (.ifnonnull 18, 3) := by decide +kernel
theorem dX4_save_21 : decode cX4_save 21 = .ok (.new 7, 3) := by decide +kernel
theorem dX4_save_24 : decode cX4_save 24 = .ok (.dup, 1) := by decide +kernel
theorem dX4_save_25 : decode cX4_save 25 = .ok (.invokespecial 9, 3) := by decide +kernel
theorem dX4_save_28 : decode cX4_save 28 = .ok (.astore_n 2, 1) := by decide +kernel
theorem dX4_save_29 : decode cX4_save 29 = .ok (.aload_n 0, 1) := by decide +kernel
theorem dX4_save_30 : decode cX4_save 30 = .ok (.getfield 43, 3) := by decide +kernel
theorem dX4_save_33 : decode cX4_save 33 = .ok (.iload_n 1, 1) := by decide +kernel
theorem dX4_save_34 : decode cX4_save 34 = .ok (.aload_n 2, 1) := by decide +kernel
theorem dX4_save_35 : decode cX4_save 35 = .ok (.aastore, 1) := by decide +kernel
theorem dX4_save_36 : decode cX4_save 36 = .ok (.aload_n 2, 1) := by decide +kernel
theorem dX4_save_37 : decode cX4_save 37 = .ok (.aload_n 0, 1) := by decide +kernel
theorem dX4_save_38 : decode cX4_save 38 = .ok (.getfield 10, 3) := by decide +kernel
theorem dX4_save_41 : decode cX4_save 41 = .ok (.invokevirtual 153, 3) := by decide +kernel
theorem dX4_save_44 : decode cX4_save 44 = .ok (.aload_n 0, 1) := by decide +kernel
theorem dX4_save_45 : decode cX4_save 45 = .ok (.getfield 10, 3) := by decide +kernel
theorem dX4_save_48 : decode cX4_save 48 = .ok (.invokevirtual 95, 3) := by decide +kernel
theorem dX4_save_51 : decode cX4_save 51 = .ok (.ireturn, 1) := by decide +kernel
set_option maxRecDepth 20000 in
theorem ggX4_restore_X4_isSlot : GoodIn wsX4_restore wsX4_isSlot := goodIn_r _ [7] (by decide +kernel) (by decide +kernel)
set_option maxRecDepth 20000 in
theorem gX4_restore_X4_isSlot : GoodIn wsX4_restore (va_wsS RX4 174 yX4_isSlot wsX4_isSlot) := goodIn_app (goodIn_of _ (by decide +kernel)) ggX4_restore_X4_isSlot
set_option maxRecDepth 20000 in
theorem ggX4_restore_X0_remember : GoodIn wsX4_restore wsX0_remember := goodIn_r _ [12, 13, 14, 15, 16, 17, 18, 19, 20, 21, 22, 23, 24, 25, 26, 27, 28, 29, 30, 31, 32, 33, 46, 47, 48, 49, 50, 51, 52, 53] (by decide +kernel) (by decide +kernel)
set_option maxRecDepth 20000 in
theorem gX4_restore_X0_remember : GoodIn wsX4_restore (wsV RX4 51 RX0 yX0_remember wsX0_remember) := goodIn_app (goodIn_of _ (by decide +kernel)) ggX4_restore_X0_remember
set_option maxRecDepth 20000 in
theorem ggX4_restore_X2_copyFrom : GoodIn wsX4_restore wsX2_copyFrom := goodIn_r _ [24, 25, 26, 27, 28, 29, 30, 31, 32, 33, 49, 50, 51, 52, 53] (by decide +kernel) (by decide +kernel)
set_option maxRecDepth 20000 in
theorem gX4_restore_X2_copyFrom : GoodIn wsX4_restore (wsV RX4 153 RX2 yX2_copyFrom wsX2_copyFrom) := goodIn_app (goodIn_of _ (by decide +kernel)) ggX4_restore_X2_copyFrom
set_option maxRecDepth 20000 in
theorem ggX4_restore_X2_marked : GoodIn wsX4_restore wsX2_marked := goodIn_r _ [38, 32, 49, 50, 51, 52, 53] (by decide +kernel) (by decide +kernel)
set_option maxRecDepth 20000 in
theorem gX4_restore_X2_marked : GoodIn wsX4_restore (wsV RX4 95 RX2 yX2_marked wsX2_marked) := goodIn_app (goodIn_of _ (by decide +kernel)) ggX4_restore_X2_marked
theorem dX4_restore_0 : decode cX4_restore 0 = .ok (.iload_n 1, 1) := by decide +kernel
theorem dX4_restore_1 : decode cX4_restore 1 = .ok (.invokestatic 174, 3) := by decide +kernel
theorem dX4_restore_4 : decode cX4_restore 4 = .ok (.ifCond .ne 6, 3) := by decide +kernel
theorem dX4_restore_7 : decode cX4_restore 7 = .ok (.bipush (-2), 2) := by decide +kernel
theorem dX4_restore_9 : decode cX4_restore 9 = .ok (.ireturn, 1) := by decide +kernel
theorem dX4_restore_10 : decode cX4_restore 10 = .ok (.aload_n 0, 1) := by decide +kernel
theorem dX4_restore_11 : decode cX4_restore 11 = .ok (.getfield 43, 3) := by decide +kernel
theorem dX4_restore_14 : decode cX4_restore 14 = .ok (.iload_n 1, 1) := by decide +kernel
theorem dX4_restore_15 : decode cX4_restore 15 = .ok (.aaload, 1) := by decide +kernel
theorem dX4_restore_16 : decode cX4_restore 16 = .ok (.astore_n 2, 1) := by decide +kernel
theorem dX4_restore_17 : decode cX4_restore 17 = .ok (.aload_n 2, 1) := by decide +kernel
theorem dX4_restore_18 : decode cX4_restore 18 = .ok (.ifnonnull 6, 3) := by decide +kernel
theorem dX4_restore_21 : decode cX4_restore 21 = .ok (.bipush (-5), 2) := by decide +kernel
theorem dX4_restore_23 : decode cX4_restore 23 = .ok (.ireturn, 1) := by decide +kernel
theorem dX4_restore_24 : decode cX4_restore 24 = .ok (.aload_n 0, 1) := by decide +kernel
theorem dX4_restore_25 : decode cX4_restore 25 = .ok (.getfield 39, 3) := by decide +kernel
theorem dX4_restore_28 : decode cX4_restore 28 = .ok (.aload_n 0, 1) := by decide +kernel
theorem dX4_restore_29 : decode cX4_restore 29 = .ok (.getfield 10, 3) := by decide +kernel
theorem dX4_restore_32 : decode cX4_restore 32 = .ok (.invokevirtual 51, 3) := by decide +kernel
theorem dX4_restore_35 : decode cX4_restore 35 = .ok (.aload_n 0, 1) := by decide +kernel
theorem dX4_restore_36 : decode cX4_restore 36 = .ok (.getfield 10, 3) := by decide +kernel
theorem dX4_restore_39 : decode cX4_restore 39 = .ok (.aload_n 2, 1) := by decide +kernel
theorem dX4_restore_40 : decode cX4_restore 40 = .ok (.invokevirtual 153, 3) := by decide +kernel
theorem dX4_restore_43 : decode cX4_restore 43 = .ok (.aload_n 0, 1) := by decide +kernel
theorem dX4_restore_44 : decode cX4_restore 44 = .ok (.getfield 10, 3) := by decide +kernel
theorem dX4_restore_47 : decode cX4_restore 47 = .ok (.invokevirtual 95, 3) := by decide +kernel
theorem dX4_restore_50 : decode cX4_restore 50 = .ok (.ireturn, 1) := by decide +kernel
theorem dX4_isPixel_0 : decode cX4_isPixel 0 = .ok (.iload_n 0, 1) := by decide +kernel
theorem dX4_isPixel_1 : decode cX4_isPixel 1 = .ok (.ifCond .lt 13, 3) := by decide +kernel
theorem dX4_isPixel_4 : decode cX4_isPixel 4 = .ok (.iload_n 0, 1) := by decide +kernel
theorem dX4_isPixel_5 : decode cX4_isPixel 5 = .ok (.bipush 48, 2) := by decide +kernel
theorem dX4_isPixel_7 : decode cX4_isPixel 7 = .ok (.if_icmp .ge 7, 3) := by decide +kernel
theorem dX4_isPixel_10 : decode cX4_isPixel 10 = .ok (.iconst 1, 1) := by decide +kernel
theorem dX4_isPixel_11 : decode cX4_isPixel 11 = .ok (.goto 4, 3) := by decide +kernel
theorem dX4_isPixel_14 : decode cX4_isPixel 14 = .ok (.iconst 0, 1) := by decide +kernel
theorem dX4_isPixel_15 : decode cX4_isPixel 15 = .ok (.ireturn, 1) := by decide +kernel
theorem dX4_isRow_0 : decode cX4_isRow 0 = .ok (.iload_n 0, 1) := by decide +kernel
theorem dX4_isRow_1 : decode cX4_isRow 1 = .ok (.ifCond .lt 13, 3) := by decide +kernel
theorem dX4_isRow_4 : decode cX4_isRow 4 = .ok (.iload_n 0, 1) := by decide +kernel
theorem dX4_isRow_5 : decode cX4_isRow 5 = .ok (.bipush 6, 2) := by decide +kernel
theorem dX4_isRow_7 : decode cX4_isRow 7 = .ok (.if_icmp .ge 7, 3) := by decide +kernel
theorem dX4_isRow_10 : decode cX4_isRow 10 = .ok (.iconst 1, 1) := by decide +kernel
theorem dX4_isRow_11 : decode cX4_isRow 11 = .ok (.goto 4, 3) := by decide +kernel
theorem dX4_isRow_14 : decode cX4_isRow 14 = .ok (.iconst 0, 1) := by decide +kernel
theorem dX4_isRow_15 : decode cX4_isRow 15 = .ok (.ireturn, 1) := by decide +kernel
theorem dX4_isColour_0 : decode cX4_isColour 0 = .ok (.iload_n 0, 1) := by decide +kernel
theorem dX4_isColour_1 : decode cX4_isColour 1 = .ok (.ifCond .lt 14, 3) := by decide +kernel
theorem dX4_isColour_4 : decode cX4_isColour 4 = .ok (.iload_n 0, 1) := by decide +kernel
theorem dX4_isColour_5 : decode cX4_isColour 5 = .ok (.sipush 4096, 3) := by decide +kernel
theorem dX4_isColour_8 : decode cX4_isColour 8 = .ok (.if_icmp .ge 7, 3) := by decide +kernel
theorem dX4_isColour_11 : decode cX4_isColour 11 = .ok (.iconst 1, 1) := by decide +kernel
theorem dX4_isColour_12 : decode cX4_isColour 12 = .ok (.goto 4, 3) := by decide +kernel
theorem dX4_isColour_15 : decode cX4_isColour 15 = .ok (.iconst 0, 1) := by decide +kernel
theorem dX4_isColour_16 : decode cX4_isColour 16 = .ok (.ireturn, 1) := by decide +kernel
theorem dX4_isSlot_0 : decode cX4_isSlot 0 = .ok (.iload_n 0, 1) := by decide +kernel
theorem dX4_isSlot_1 : decode cX4_isSlot 1 = .ok (.ifCond .lt 12, 3) := by decide +kernel
theorem dX4_isSlot_4 : decode cX4_isSlot 4 = .ok (.iload_n 0, 1) := by decide +kernel
theorem dX4_isSlot_5 : decode cX4_isSlot 5 = .ok (.iconst 2, 1) := by decide +kernel
theorem dX4_isSlot_6 : decode cX4_isSlot 6 = .ok (.if_icmp .ge 7, 3) := by decide +kernel
theorem dX4_isSlot_9 : decode cX4_isSlot 9 = .ok (.iconst 1, 1) := by decide +kernel
theorem dX4_isSlot_10 : decode cX4_isSlot 10 = .ok (.goto 4, 3) := by decide +kernel
theorem dX4_isSlot_13 : decode cX4_isSlot 13 = .ok (.iconst 0, 1) := by decide +kernel
theorem dX4_isSlot_14 : decode cX4_isSlot 14 = .ok (.ireturn, 1) := by decide +kernel
theorem dX4_isSetting_0 : decode cX4_isSetting 0 = .ok (.iload_n 0, 1) := by decide +kernel
theorem dX4_isSetting_1 : decode cX4_isSetting 1 = .ok (.ifCond .lt 13, 3) := by decide +kernel
theorem dX4_isSetting_4 : decode cX4_isSetting 4 = .ok (.iload_n 0, 1) := by decide +kernel
theorem dX4_isSetting_5 : decode cX4_isSetting 5 = .ok (.bipush 6, 2) := by decide +kernel
theorem dX4_isSetting_7 : decode cX4_isSetting 7 = .ok (.if_icmp .ge 7, 3) := by decide +kernel
theorem dX4_isSetting_10 : decode cX4_isSetting 10 = .ok (.iconst 1, 1) := by decide +kernel
theorem dX4_isSetting_11 : decode cX4_isSetting 11 = .ok (.goto 4, 3) := by decide +kernel
theorem dX4_isSetting_14 : decode cX4_isSetting 14 = .ok (.iconst 0, 1) := by decide +kernel
theorem dX4_isSetting_15 : decode cX4_isSetting 15 = .ok (.ireturn, 1) := by decide +kernel
set_option maxRecDepth 20000 in
theorem ggX4_errorOfSetting_X4_isSetting : GoodIn wsX4_errorOfSetting wsX4_isSetting := goodIn_r _ [7] (by decide +kernel) (by decide +kernel)
set_option maxRecDepth 20000 in
theorem gX4_errorOfSetting_X4_isSetting : GoodIn wsX4_errorOfSetting (va_wsS RX4 177 yX4_isSetting wsX4_isSetting) := goodIn_app (goodIn_of _ (by decide +kernel)) ggX4_errorOfSetting_X4_isSetting
theorem dX4_errorOfSetting_0 : decode cX4_errorOfSetting 0 = .ok (.iload_n 1, 1) := by decide +kernel
theorem dX4_errorOfSetting_1 : decode cX4_errorOfSetting 1 = .ok (.invokestatic 177, 3) := by decide +kernel
theorem dX4_errorOfSetting_4 : decode cX4_errorOfSetting 4 = .ok (.ifCond .eq 16, 3) := by decide +kernel
theorem dX4_errorOfSetting_7 : decode cX4_errorOfSetting 7 = .ok (.iload_n 2, 1) := by decide +kernel
theorem dX4_errorOfSetting_8 : decode cX4_errorOfSetting 8 = .ok (.ifCond .lt 12, 3) := by decide +kernel
theorem dX4_errorOfSetting_11 : decode cX4_errorOfSetting 11 = .ok (.iload_n 2, 1) := by decide +kernel
theorem dX4_errorOfSetting_12 : decode cX4_errorOfSetting 12 = .ok (.getstatic 180, 3) := by decide +kernel
theorem dX4_errorOfSetting_15 : decode cX4_errorOfSetting 15 = .ok (.iload_n 1, 1) := by decide +kernel
theorem dX4_errorOfSetting_16 : decode cX4_errorOfSetting 16 = .ok (.iaload, 1) := by decide +kernel
theorem dX4_errorOfSetting_17 : decode cX4_errorOfSetting 17 = .ok (.if_icmp .le 6, 3) := by decide +kernel
theorem dX4_errorOfSetting_20 : decode cX4_errorOfSetting 20 = .ok (.bipush (-2), 2) := by decide +kernel
theorem dX4_errorOfSetting_22 : decode cX4_errorOfSetting 22 = .ok (.ireturn, 1) := by decide +kernel
theorem dX4_errorOfSetting_23 : decode cX4_errorOfSetting 23 = .ok (.iload_n 1, 1) := by decide +kernel
theorem dX4_errorOfSetting_24 : decode cX4_errorOfSetting 24 = .ok (.ifCond .ne 7, 3) := by decide +kernel
theorem dX4_errorOfSetting_27 : decode cX4_errorOfSetting 27 = .ok (.iload_n 2, 1) := by decide +kernel
theorem dX4_errorOfSetting_28 : decode cX4_errorOfSetting 28 = .ok (.goto 12, 3) := by decide +kernel
theorem dX4_errorOfSetting_31 : decode cX4_errorOfSetting 31 = .ok (.aload_n 0, 1) := by decide +kernel
theorem dX4_errorOfSetting_32 : decode cX4_errorOfSetting 32 = .ok (.getfield 10, 3) := by decide +kernel
theorem dX4_errorOfSetting_35 : decode cX4_errorOfSetting 35 = .ok (.getfield 137, 3) := by decide +kernel
theorem dX4_errorOfSetting_38 : decode cX4_errorOfSetting 38 = .ok (.iconst 0, 1) := by decide +kernel
theorem dX4_errorOfSetting_39 : decode cX4_errorOfSetting 39 = .ok (.iaload, 1) := by decide +kernel
theorem dX4_errorOfSetting_40 : decode cX4_errorOfSetting 40 = .ok (.istore_n 3, 1) := by decide +kernel
theorem dX4_errorOfSetting_41 : decode cX4_errorOfSetting 41 = .ok (.iload_n 1, 1) := by decide +kernel
theorem dX4_errorOfSetting_42 : decode cX4_errorOfSetting 42 = .ok (.iconst 1, 1) := by decide +kernel
theorem dX4_errorOfSetting_43 : decode cX4_errorOfSetting 43 = .ok (.if_icmp .ne 7, 3) := by decide +kernel
theorem dX4_errorOfSetting_46 : decode cX4_errorOfSetting 46 = .ok (.iload_n 2, 1) := by decide +kernel
theorem dX4_errorOfSetting_47 : decode cX4_errorOfSetting 47 = .ok (.goto 12, 3) := by decide +kernel
theorem dX4_errorOfSetting_50 : decode cX4_errorOfSetting 50 = .ok (.aload_n 0, 1) := by decide +kernel
theorem dX4_errorOfSetting_51 : decode cX4_errorOfSetting 51 = .ok (.getfield 10, 3) := by decide +kernel
theorem dX4_errorOfSetting_54 : decode cX4_errorOfSetting 54 = .ok (.getfield 137, 3) := by decide +kernel
theorem dX4_errorOfSetting_57 : decode cX4_errorOfSetting 57 = .ok (.iconst 1, 1) := by decide +kernel
theorem dX4_errorOfSetting_58 : decode cX4_errorOfSetting 58 = .ok (.iaload, 1) := by decide +kernel
theorem dX4_errorOfSetting_59 : decode cX4_errorOfSetting 59 = .ok (.istore 4, 2) := by decide +kernel
theorem dX4_errorOfSetting_61 : decode cX4_errorOfSetting 61 = .ok (.iload_n 3, 1) := by decide +kernel
theorem dX4_errorOfSetting_62 : decode cX4_errorOfSetting 62 = .ok (.iload 4, 2) := by decide +kernel
theorem dX4_errorOfSetting_64 : decode cX4_errorOfSetting 64 = .ok (.if_icmp .ge 7, 3) := by decide +kernel
theorem dX4_errorOfSetting_67 : decode cX4_errorOfSetting 67 = .ok (.iconst 0, 1) := by decide +kernel
theorem dX4_errorOfSetting_68 : decode cX4_errorOfSetting 68 = .ok (.goto 5, 3) := by decide +kernel
theorem dX4_errorOfSetting_71 : decode cX4_errorOfSetting 71 = .ok (.bipush (-5), 2) := by decide +kernel
theorem dX4_errorOfSetting_73 : decode cX4_errorOfSetting 73 = .ok (.ireturn, 1) := by decide +kernel
theorem dX4_charactersIn_0 : decode cX4_charactersIn 0 = .ok (.lload_n 0, 1) := by decide +kernel
theorem dX4_charactersIn_1 : decode cX4_charactersIn 1 = .ok (.lstore_n 2, 1) := by decide +kernel
theorem dX4_charactersIn_2 : decode cX4_charactersIn 2 = .ok (.iconst 0, 1) := by decide +kernel
theorem dX4_charactersIn_3 : decode cX4_charactersIn 3 = .ok (.istore 4, 2) := by decide +kernel
theorem dX4_charactersIn_5 : decode cX4_charactersIn 5 = .ok (.iconst 0, 1) := by decide +kernel
theorem dX4_charactersIn_6 : decode cX4_charactersIn 6 = .ok (.istore 5, 2) := by decide +kernel
theorem dX4_charactersIn_8 : decode cX4_charactersIn 8 = .ok (.iload 5, 2) := by decide +kernel
theorem dX4_charactersIn_10 : decode cX4_charactersIn 10 = .ok (.bipush 8, 2) := by decide +kernel
theorem dX4_charactersIn_12 : decode cX4_charactersIn 12 = .ok (.if_icmp .ge 47, 3) := by decide +kernel
theorem dX4_charactersIn_15 : decode cX4_charactersIn 15 = .ok (.lload_n 2, 1) := by decide +kernel
theorem dX4_charactersIn_16 : decode cX4_charactersIn 16 = .ok (.lconst 0, 1) := by decide +kernel
theorem dX4_charactersIn_17 : decode cX4_charactersIn 17 = .ok (.lcmp, 1) := by decide +kernel
theorem dX4_charactersIn_18 : decode cX4_charactersIn 18 = .ok (.ifCond .eq 41, 3) := by decide +kernel
theorem dX4_charactersIn_21 : decode cX4_charactersIn 21 = .ok (.lload_n 2, 1) := by decide +kernel
theorem dX4_charactersIn_22 : decode cX4_charactersIn 22 = .ok (.ldc2_w 183, 3) := by decide +kernel
theorem dX4_charactersIn_25 : decode cX4_charactersIn 25 = .ok (.land, 1) := by decide +kernel
theorem dX4_charactersIn_26 : decode cX4_charactersIn 26 = .ok (.l2i, 1) := by decide +kernel
theorem dX4_charactersIn_27 : decode cX4_charactersIn 27 = .ok (.istore 6, 2) := by decide +kernel
theorem dX4_charactersIn_29 : decode cX4_charactersIn 29 = .ok (.iload 6, 2) := by decide +kernel
theorem dX4_charactersIn_31 : decode cX4_charactersIn 31 = .ok (.bipush 33, 2) := by decide +kernel
theorem dX4_charactersIn_33 : decode cX4_charactersIn 33 = .ok (.if_icmp .lt 10, 3) := by decide +kernel
theorem dX4_charactersIn_36 : decode cX4_charactersIn 36 = .ok (.iload 6, 2) := by decide +kernel
theorem dX4_charactersIn_38 : decode cX4_charactersIn 38 = .ok (.bipush 126, 2) := by decide +kernel
theorem dX4_charactersIn_40 : decode cX4_charactersIn 40 = .ok (.if_icmp .le 5, 3) := by decide +kernel
theorem dX4_charactersIn_43 : decode cX4_charactersIn 43 = .ok (.iconst 0, 1) := by decide +kernel
theorem dX4_charactersIn_44 : decode cX4_charactersIn 44 = .ok (.ireturn, 1) := by decide +kernel
theorem dX4_charactersIn_45 : decode cX4_charactersIn 45 = .ok (.iinc 4 1, 3) := by decide +kernel
theorem dX4_charactersIn_48 : decode cX4_charactersIn 48 = .ok (.lload_n 2, 1) := by decide +kernel
theorem dX4_charactersIn_49 : decode cX4_charactersIn 49 = .ok (.bipush 8, 2) := by decide +kernel
theorem dX4_charactersIn_51 : decode cX4_charactersIn 51 = .ok (.lushr, 1) := by decide +kernel
theorem dX4_charactersIn_52 : decode cX4_charactersIn 52 = .ok (.lstore_n 2, 1) := by decide +kernel
theorem dX4_charactersIn_53 : decode cX4_charactersIn 53 = .ok (.iinc 5 1, 3) := by decide +kernel
theorem dX4_charactersIn_56 : decode cX4_charactersIn 56 = .ok (.goto (-48), 3) := by decide +kernel
theorem dX4_charactersIn_59 : decode cX4_charactersIn 59 = .ok (.iload 4, 2) := by decide +kernel
theorem dX4_charactersIn_61 : decode cX4_charactersIn 61 = .ok (.ireturn, 1) := by decide +kernel
theorem dX4_beside_0 : decode cX4_beside 0 = .ok (.iload_n 0, 1) := by decide +kernel
theorem dX4_beside_1 : decode cX4_beside 1 = .ok (.bipush 8, 2) := by decide +kernel
theorem dX4_beside_3 : decode cX4_beside 3 = .ok (.irem, 1) := by decide +kernel
theorem dX4_beside_4 : decode cX4_beside 4 = .ok (.istore_n 2, 1) := by decide +kernel
theorem dX4_beside_5 : decode cX4_beside 5 = .ok (.iload_n 1, 1) := by decide +kernel
theorem dX4_beside_6 : decode cX4_beside 6 = .ok (.tableswitch 68 0 2 #[26, 41, 56], 26) := by decide +kernel
theorem dX4_beside_32 : decode cX4_beside 32 = .ok (.iload_n 0, 1) := by decide +kernel
theorem dX4_beside_33 : decode cX4_beside 33 = .ok (.bipush 8, 2) := by decide +kernel
theorem dX4_beside_35 : decode cX4_beside 35 = .ok (.if_icmp .lt 10, 3) := by decide +kernel
theorem dX4_beside_38 : decode cX4_beside 38 = .ok (.iload_n 0, 1) := by decide +kernel
theorem dX4_beside_39 : decode cX4_beside 39 = .ok (.bipush 8, 2) := by decide +kernel
theorem dX4_beside_41 : decode cX4_beside 41 = .ok (.isub, 1) := by decide +kernel
theorem dX4_beside_42 : decode cX4_beside 42 = .ok (.goto 4, 3) := by decide +kernel
theorem dX4_beside_45 : decode cX4_beside 45 = .ok (.iconst (-1), 1) := by decide +kernel
theorem dX4_beside_46 : decode cX4_beside 46 = .ok (.ireturn, 1) := by decide +kernel
theorem dX4_beside_47 : decode cX4_beside 47 = .ok (.iload_n 0, 1) := by decide +kernel
theorem dX4_beside_48 : decode cX4_beside 48 = .ok (.bipush 40, 2) := by decide +kernel
theorem dX4_beside_50 : decode cX4_beside 50 = .ok (.if_icmp .ge 10, 3) := by decide +kernel
theorem dX4_beside_53 : decode cX4_beside 53 = .ok (.iload_n 0, 1) := by decide +kernel
theorem dX4_beside_54 : decode cX4_beside 54 = .ok (.bipush 8, 2) := by decide +kernel
theorem dX4_beside_56 : decode cX4_beside 56 = .ok (.iadd, 1) := by decide +kernel
theorem dX4_beside_57 : decode cX4_beside 57 = .ok (.goto 4, 3) := by decide +kernel
theorem dX4_beside_60 : decode cX4_beside 60 = .ok (.iconst (-1), 1) := by decide +kernel
theorem dX4_beside_61 : decode cX4_beside 61 = .ok (.ireturn, 1) := by decide +kernel
theorem dX4_beside_62 : decode cX4_beside 62 = .ok (.iload_n 2, 1) := by decide +kernel
theorem dX4_beside_63 : decode cX4_beside 63 = .ok (.ifCond .le 9, 3) := by decide +kernel
theorem dX4_beside_66 : decode cX4_beside 66 = .ok (.iload_n 0, 1) := by decide +kernel
theorem dX4_beside_67 : decode cX4_beside 67 = .ok (.iconst 1, 1) := by decide +kernel
theorem dX4_beside_68 : decode cX4_beside 68 = .ok (.isub, 1) := by decide +kernel
theorem dX4_beside_69 : decode cX4_beside 69 = .ok (.goto 4, 3) := by decide +kernel
theorem dX4_beside_72 : decode cX4_beside 72 = .ok (.iconst (-1), 1) := by decide +kernel
theorem dX4_beside_73 : decode cX4_beside 73 = .ok (.ireturn, 1) := by decide +kernel
theorem dX4_beside_74 : decode cX4_beside 74 = .ok (.iload_n 2, 1) := by decide +kernel
theorem dX4_beside_75 : decode cX4_beside 75 = .ok (.bipush 7, 2) := by decide +kernel
theorem dX4_beside_77 : decode cX4_beside 77 = .ok (.if_icmp .ge 9, 3) := by decide +kernel
theorem dX4_beside_80 : decode cX4_beside 80 = .ok (.iload_n 0, 1) := by decide +kernel
theorem dX4_beside_81 : decode cX4_beside 81 = .ok (.iconst 1, 1) := by decide +kernel
theorem dX4_beside_82 : decode cX4_beside 82 = .ok (.iadd, 1) := by decide +kernel
theorem dX4_beside_83 : decode cX4_beside 83 = .ok (.goto 4, 3) := by decide +kernel
theorem dX4_beside_86 : decode cX4_beside 86 = .ok (.iconst (-1), 1) := by decide +kernel
theorem dX4_beside_87 : decode cX4_beside 87 = .ok (.ireturn, 1) := by decide +kernel
theorem dX4_isAtEdge_0 : decode cX4_isAtEdge 0 = .ok (.iload_n 0, 1) := by decide +kernel
theorem dX4_isAtEdge_1 : decode cX4_isAtEdge 1 = .ok (.bipush 8, 2) := by decide +kernel
theorem dX4_isAtEdge_3 : decode cX4_isAtEdge 3 = .ok (.irem, 1) := by decide +kernel
theorem dX4_isAtEdge_4 : decode cX4_isAtEdge 4 = .ok (.istore_n 1, 1) := by decide +kernel
theorem dX4_isAtEdge_5 : decode cX4_isAtEdge 5 = .ok (.iload_n 0, 1) := by decide +kernel
theorem dX4_isAtEdge_6 : decode cX4_isAtEdge 6 = .ok (.bipush 8, 2) := by decide +kernel
theorem dX4_isAtEdge_8 : decode cX4_isAtEdge 8 = .ok (.idiv, 1) := by decide +kernel
theorem dX4_isAtEdge_9 : decode cX4_isAtEdge 9 = .ok (.istore_n 2, 1) := by decide +kernel
theorem dX4_isAtEdge_10 : decode cX4_isAtEdge 10 = .ok (.iload_n 1, 1) := by decide +kernel
theorem dX4_isAtEdge_11 : decode cX4_isAtEdge 11 = .ok (.ifCond .eq 18, 3) := by decide +kernel
theorem dX4_isAtEdge_14 : decode cX4_isAtEdge 14 = .ok (.iload_n 1, 1) := by decide +kernel
theorem dX4_isAtEdge_15 : decode cX4_isAtEdge 15 = .ok (.bipush 7, 2) := by decide +kernel
theorem dX4_isAtEdge_17 : decode cX4_isAtEdge 17 = .ok (.if_icmp .eq 12, 3) := by decide +kernel
theorem dX4_isAtEdge_20 : decode cX4_isAtEdge 20 = .ok (.iload_n 2, 1) := by decide +kernel
theorem dX4_isAtEdge_21 : decode cX4_isAtEdge 21 = .ok (.ifCond .eq 8, 3) := by decide +kernel
theorem dX4_isAtEdge_24 : decode cX4_isAtEdge 24 = .ok (.iload_n 2, 1) := by decide +kernel
theorem dX4_isAtEdge_25 : decode cX4_isAtEdge 25 = .ok (.iconst 5, 1) := by decide +kernel
theorem dX4_isAtEdge_26 : decode cX4_isAtEdge 26 = .ok (.if_icmp .ne 7, 3) := by decide +kernel
theorem dX4_isAtEdge_29 : decode cX4_isAtEdge 29 = .ok (.iconst 1, 1) := by decide +kernel
theorem dX4_isAtEdge_30 : decode cX4_isAtEdge 30 = .ok (.goto 4, 3) := by decide +kernel
theorem dX4_isAtEdge_33 : decode cX4_isAtEdge 33 = .ok (.iconst 0, 1) := by decide +kernel
theorem dX4_isAtEdge_34 : decode cX4_isAtEdge 34 = .ok (.ireturn, 1) := by decide +kernel
theorem dX4_fillBetween_0 : decode cX4_fillBetween 0 = .ok (.iload_n 1, 1) := by decide +kernel
theorem dX4_fillBetween_1 : decode cX4_fillBetween 1 = .ok (.bipush 8, 2) := by decide +kernel
theorem dX4_fillBetween_3 : decode cX4_fillBetween 3 = .ok (.irem, 1) := by decide +kernel
theorem dX4_fillBetween_4 : decode cX4_fillBetween 4 = .ok (.iload_n 2, 1) := by decide +kernel
theorem dX4_fillBetween_5 : decode cX4_fillBetween 5 = .ok (.bipush 8, 2) := by decide +kernel
theorem dX4_fillBetween_7 : decode cX4_fillBetween 7 = .ok (.irem, 1) := by decide +kernel
theorem dX4_fillBetween_8 : decode cX4_fillBetween 8 = .ok (.invokestatic 185, 3) := by decide +kernel
theorem dX4_fillBetween_11 : decode cX4_fillBetween 11 = .ok (.istore 4, 2) := by decide +kernel
theorem dX4_fillBetween_13 : decode cX4_fillBetween 13 = .ok (.iload_n 1, 1) := by decide +kernel
theorem dX4_fillBetween_14 : decode cX4_fillBetween 14 = .ok (.bipush 8, 2) := by decide +kernel
theorem dX4_fillBetween_16 : decode cX4_fillBetween 16 = .ok (.irem, 1) := by decide +kernel
theorem dX4_fillBetween_17 : decode cX4_fillBetween 17 = .ok (.iload_n 2, 1) := by decide +kernel
theorem dX4_fillBetween_18 : decode cX4_fillBetween 18 = .ok (.bipush 8, 2) := by decide +kernel
theorem dX4_fillBetween_20 : decode cX4_fillBetween 20 = .ok (.irem, 1) := by decide +kernel
theorem dX4_fillBetween_21 : decode cX4_fillBetween 21 = .ok (.invokestatic 190, 3) := by decide +kernel
theorem dX4_fillBetween_24 : decode cX4_fillBetween 24 = .ok (.istore 5, 2) := by decide +kernel
theorem dX4_fillBetween_26 : decode cX4_fillBetween 26 = .ok (.iload_n 1, 1) := by decide +kernel
theorem dX4_fillBetween_27 : decode cX4_fillBetween 27 = .ok (.bipush 8, 2) := by decide +kernel
theorem dX4_fillBetween_29 : decode cX4_fillBetween 29 = .ok (.idiv, 1) := by decide +kernel
theorem dX4_fillBetween_30 : decode cX4_fillBetween 30 = .ok (.iload_n 2, 1) := by decide +kernel
theorem dX4_fillBetween_31 : decode cX4_fillBetween 31 = .ok (.bipush 8, 2) := by decide +kernel
theorem dX4_fillBetween_33 : decode cX4_fillBetween 33 = .ok (.idiv, 1) := by decide +kernel
theorem dX4_fillBetween_34 : decode cX4_fillBetween 34 = .ok (.invokestatic 185, 3) := by decide +kernel
theorem dX4_fillBetween_37 : decode cX4_fillBetween 37 = .ok (.istore 6, 2) := by decide +kernel
theorem dX4_fillBetween_39 : decode cX4_fillBetween 39 = .ok (.iload_n 1, 1) := by decide +kernel
theorem dX4_fillBetween_40 : decode cX4_fillBetween 40 = .ok (.bipush 8, 2) := by decide +kernel
theorem dX4_fillBetween_42 : decode cX4_fillBetween 42 = .ok (.idiv, 1) := by decide +kernel
theorem dX4_fillBetween_43 : decode cX4_fillBetween 43 = .ok (.iload_n 2, 1) := by decide +kernel
theorem dX4_fillBetween_44 : decode cX4_fillBetween 44 = .ok (.bipush 8, 2) := by decide +kernel
theorem dX4_fillBetween_46 : decode cX4_fillBetween 46 = .ok (.idiv, 1) := by decide +kernel
theorem dX4_fillBetween_47 : decode cX4_fillBetween 47 = .ok (.invokestatic 190, 3) := by decide +kernel
theorem dX4_fillBetween_50 : decode cX4_fillBetween 50 = .ok (.istore 7, 2) := by decide +kernel
theorem dX4_fillBetween_52 : decode cX4_fillBetween 52 = .ok (.iload 6, 2) := by decide +kernel
theorem dX4_fillBetween_54 : decode cX4_fillBetween 54 = .ok (.istore 8, 2) := by decide +kernel
theorem dX4_fillBetween_56 : decode cX4_fillBetween 56 = .ok (.iload 8, 2) := by decide +kernel
theorem dX4_fillBetween_58 : decode cX4_fillBetween 58 = .ok (.iload 7, 2) := by decide +kernel
theorem dX4_fillBetween_60 : decode cX4_fillBetween 60 = .ok (.if_icmp .gt 37, 3) := by decide +kernel
theorem dX4_fillBetween_63 : decode cX4_fillBetween 63 = .ok (.iload 4, 2) := by decide +kernel
theorem dX4_fillBetween_65 : decode cX4_fillBetween 65 = .ok (.istore 9, 2) := by decide +kernel
theorem dX4_fillBetween_67 : decode cX4_fillBetween 67 = .ok (.iload 9, 2) := by decide +kernel
theorem dX4_fillBetween_69 : decode cX4_fillBetween 69 = .ok (.iload 5, 2) := by decide +kernel
theorem dX4_fillBetween_71 : decode cX4_fillBetween 71 = .ok (.if_icmp .gt 20, 3) := by decide +kernel
theorem dX4_fillBetween_74 : decode cX4_fillBetween 74 = .ok (.aload_n 0, 1) := by decide +kernel
theorem dX4_fillBetween_75 : decode cX4_fillBetween 75 = .ok (.bipush 8, 2) := by decide +kernel
theorem dX4_fillBetween_77 : decode cX4_fillBetween 77 = .ok (.iload 8, 2) := by decide +kernel
theorem dX4_fillBetween_79 : decode cX4_fillBetween 79 = .ok (.imul, 1) := by decide +kernel
theorem dX4_fillBetween_80 : decode cX4_fillBetween 80 = .ok (.iload 9, 2) := by decide +kernel
theorem dX4_fillBetween_82 : decode cX4_fillBetween 82 = .ok (.iadd, 1) := by decide +kernel
theorem dX4_fillBetween_83 : decode cX4_fillBetween 83 = .ok (.iload_n 3, 1) := by decide +kernel
theorem dX4_fillBetween_84 : decode cX4_fillBetween 84 = .ok (.iastore, 1) := by decide +kernel
theorem dX4_fillBetween_85 : decode cX4_fillBetween 85 = .ok (.iinc 9 1, 3) := by decide +kernel
theorem dX4_fillBetween_88 : decode cX4_fillBetween 88 = .ok (.goto (-21), 3) := by decide +kernel
theorem dX4_fillBetween_91 : decode cX4_fillBetween 91 = .ok (.iinc 8 1, 3) := by decide +kernel
theorem dX4_fillBetween_94 : decode cX4_fillBetween 94 = .ok (.goto (-38), 3) := by decide +kernel
theorem dX4_fillBetween_97 : decode cX4_fillBetween 97 = .ok (.iload 5, 2) := by decide +kernel
theorem dX4_fillBetween_99 : decode cX4_fillBetween 99 = .ok (.iload 4, 2) := by decide +kernel
theorem dX4_fillBetween_101 : decode cX4_fillBetween 101 = .ok (.isub, 1) := by decide +kernel
theorem dX4_fillBetween_102 : decode cX4_fillBetween 102 = .ok (.iconst 1, 1) := by decide +kernel
theorem dX4_fillBetween_103 : decode cX4_fillBetween 103 = .ok (.iadd, 1) := by decide +kernel
theorem dX4_fillBetween_104 : decode cX4_fillBetween 104 = .ok (.iload 7, 2) := by decide +kernel
theorem dX4_fillBetween_106 : decode cX4_fillBetween 106 = .ok (.iload 6, 2) := by decide +kernel
theorem dX4_fillBetween_108 : decode cX4_fillBetween 108 = .ok (.isub, 1) := by decide +kernel
theorem dX4_fillBetween_109 : decode cX4_fillBetween 109 = .ok (.iconst 1, 1) := by decide +kernel
theorem dX4_fillBetween_110 : decode cX4_fillBetween 110 = .ok (.iadd, 1) := by decide +kernel
theorem dX4_fillBetween_111 : decode cX4_fillBetween 111 = .ok (.imul, 1) := by decide +kernel
theorem dX4_fillBetween_112 : decode cX4_fillBetween 112 = .ok (.ireturn, 1) := by decide +kernel
set_option maxRecDepth 20000 in
theorem ggX4_part_X4_partShift : GoodIn wsX4_part wsX4_partShift := goodIn_r _ [4] (by decide +kernel) (by decide +kernel)
set_option maxRecDepth 20000 in
theorem gX4_part_X4_partShift : GoodIn wsX4_part (va_wsS RX4 193 yX4_partShift wsX4_partShift) := goodIn_app (goodIn_of _ (by decide +kernel)) ggX4_part_X4_partShift
theorem dX4_part_0 : decode cX4_part 0 = .ok (.iload_n 0, 1) := by decide +kernel
theorem dX4_part_1 : decode cX4_part 1 = .ok (.iload_n 1, 1) := by decide +kernel
theorem dX4_part_2 : decode cX4_part 2 = .ok (.invokestatic 193, 3) := by decide +kernel
theorem dX4_part_5 : decode cX4_part 5 = .ok (.ishr, 1) := by decide +kernel
theorem dX4_part_6 : decode cX4_part 6 = .ok (.bipush 15, 2) := by decide +kernel
theorem dX4_part_8 : decode cX4_part 8 = .ok (.iand, 1) := by decide +kernel
theorem dX4_part_9 : decode cX4_part 9 = .ok (.ireturn, 1) := by decide +kernel
theorem dX4_partShift_0 : decode cX4_partShift 0 = .ok (.iconst 4, 1) := by decide +kernel
theorem dX4_partShift_1 : decode cX4_partShift 1 = .ok (.iconst 2, 1) := by decide +kernel
theorem dX4_partShift_2 : decode cX4_partShift 2 = .ok (.iload_n 0, 1) := by decide +kernel
theorem dX4_partShift_3 : decode cX4_partShift 3 = .ok (.isub, 1) := by decide +kernel
theorem dX4_partShift_4 : decode cX4_partShift 4 = .ok (.imul, 1) := by decide +kernel
theorem dX4_partShift_5 : decode cX4_partShift 5 = .ok (.ireturn, 1) := by decide +kernel
set_option maxRecDepth 20000 in
theorem ggX4_mainPart_X4_part : GoodIn wsX4_mainPart wsX4_part := goodIn_r _ [4, 5, 6, 3, 7] (by decide +kernel) (by decide +kernel)
set_option maxRecDepth 20000 in
theorem gX4_mainPart_X4_part : GoodIn wsX4_mainPart (va_wsS RX4 196 yX4_part wsX4_part) := goodIn_app (goodIn_of _ (by decide +kernel)) ggX4_mainPart_X4_part
theorem dX4_mainPart_0 : decode cX4_mainPart 0 = .ok (.iconst 0, 1) := by decide +kernel
theorem dX4_mainPart_1 : decode cX4_mainPart 1 = .ok (.istore_n 1, 1) := by decide +kernel
theorem dX4_mainPart_2 : decode cX4_mainPart 2 = .ok (.iconst 1, 1) := by decide +kernel
theorem dX4_mainPart_3 : decode cX4_mainPart 3 = .ok (.istore_n 2, 1) := by decide +kernel
theorem dX4_mainPart_4 : decode cX4_mainPart 4 = .ok (.iload_n 2, 1) := by decide +kernel
theorem dX4_mainPart_5 : decode cX4_mainPart 5 = .ok (.iconst 3, 1) := by decide +kernel
theorem dX4_mainPart_6 : decode cX4_mainPart 6 = .ok (.if_icmp .ge 24, 3) := by decide +kernel
theorem dX4_mainPart_9 : decode cX4_mainPart 9 = .ok (.iload_n 0, 1) := by decide +kernel
theorem dX4_mainPart_10 : decode cX4_mainPart 10 = .ok (.iload_n 2, 1) := by decide +kernel
theorem dX4_mainPart_11 : decode cX4_mainPart 11 = .ok (.invokestatic 196, 3) := by decide +kernel
theorem dX4_mainPart_14 : decode cX4_mainPart 14 = .ok (.iload_n 0, 1) := by decide +kernel
theorem dX4_mainPart_15 : decode cX4_mainPart 15 = .ok (.iload_n 1, 1) := by decide +kernel
theorem dX4_mainPart_16 : decode cX4_mainPart 16 = .ok (.invokestatic 196, 3) := by decide +kernel
theorem dX4_mainPart_19 : decode cX4_mainPart 19 = .ok (.if_icmp .le 5, 3) := by decide +kernel
theorem dX4_mainPart_22 : decode cX4_mainPart 22 = .ok (.iload_n 2, 1) := by decide +kernel
theorem dX4_mainPart_23 : decode cX4_mainPart 23 = .ok (.istore_n 1, 1) := by decide +kernel
theorem dX4_mainPart_24 : decode cX4_mainPart 24 = .ok (.iinc 2 1, 3) := by decide +kernel
theorem dX4_mainPart_27 : decode cX4_mainPart 27 = .ok (.goto (-23), 3) := by decide +kernel
theorem dX4_mainPart_30 : decode cX4_mainPart 30 = .ok (.iload_n 1, 1) := by decide +kernel
theorem dX4_mainPart_31 : decode cX4_mainPart 31 = .ok (.ireturn, 1) := by decide +kernel
set_option maxRecDepth 20000 in
theorem ggX4_spillIn_X4_part : GoodIn wsX4_spillIn wsX4_part := goodIn_r _ [8, 9, 10, 7, 11] (by decide +kernel) (by decide +kernel)
set_option maxRecDepth 20000 in
theorem gX4_spillIn_X4_part : GoodIn wsX4_spillIn (va_wsS RX4 196 yX4_part wsX4_part) := goodIn_app (goodIn_of _ (by decide +kernel)) ggX4_spillIn_X4_part
theorem dX4_spillIn_0 : decode cX4_spillIn 0 = .ok (.iload_n 0, 1) := by decide +kernel
theorem dX4_spillIn_1 : decode cX4_spillIn 1 = .ok (.iload_n 1, 1) := by decide +kernel
theorem dX4_spillIn_2 : decode cX4_spillIn 2 = .ok (.iconst 1, 1) := by decide +kernel
theorem dX4_spillIn_3 : decode cX4_spillIn 3 = .ok (.iadd, 1) := by decide +kernel
theorem dX4_spillIn_4 : decode cX4_spillIn 4 = .ok (.iconst 3, 1) := by decide +kernel
theorem dX4_spillIn_5 : decode cX4_spillIn 5 = .ok (.irem, 1) := by decide +kernel
theorem dX4_spillIn_6 : decode cX4_spillIn 6 = .ok (.invokestatic 196, 3) := by decide +kernel
theorem dX4_spillIn_9 : decode cX4_spillIn 9 = .ok (.istore_n 2, 1) := by decide +kernel
theorem dX4_spillIn_10 : decode cX4_spillIn 10 = .ok (.iload_n 0, 1) := by decide +kernel
theorem dX4_spillIn_11 : decode cX4_spillIn 11 = .ok (.iload_n 1, 1) := by decide +kernel
theorem dX4_spillIn_12 : decode cX4_spillIn 12 = .ok (.iconst 2, 1) := by decide +kernel
theorem dX4_spillIn_13 : decode cX4_spillIn 13 = .ok (.iadd, 1) := by decide +kernel
theorem dX4_spillIn_14 : decode cX4_spillIn 14 = .ok (.iconst 3, 1) := by decide +kernel
theorem dX4_spillIn_15 : decode cX4_spillIn 15 = .ok (.irem, 1) := by decide +kernel
theorem dX4_spillIn_16 : decode cX4_spillIn 16 = .ok (.invokestatic 196, 3) := by decide +kernel
theorem dX4_spillIn_19 : decode cX4_spillIn 19 = .ok (.istore_n 3, 1) := by decide +kernel
theorem dX4_spillIn_20 : decode cX4_spillIn 20 = .ok (.iconst 0, 1) := by decide +kernel
theorem dX4_spillIn_21 : decode cX4_spillIn 21 = .ok (.iload_n 0, 1) := by decide +kernel
theorem dX4_spillIn_22 : decode cX4_spillIn 22 = .ok (.iload_n 1, 1) := by decide +kernel
theorem dX4_spillIn_23 : decode cX4_spillIn 23 = .ok (.invokestatic 196, 3) := by decide +kernel
theorem dX4_spillIn_26 : decode cX4_spillIn 26 = .ok (.iload_n 2, 1) := by decide +kernel
theorem dX4_spillIn_27 : decode cX4_spillIn 27 = .ok (.iload_n 3, 1) := by decide +kernel
theorem dX4_spillIn_28 : decode cX4_spillIn 28 = .ok (.invokestatic 190, 3) := by decide +kernel
theorem dX4_spillIn_31 : decode cX4_spillIn 31 = .ok (.isub, 1) := by decide +kernel
theorem dX4_spillIn_32 : decode cX4_spillIn 32 = .ok (.invokestatic 190, 3) := by decide +kernel
theorem dX4_spillIn_35 : decode cX4_spillIn 35 = .ok (.ireturn, 1) := by decide +kernel
set_option maxRecDepth 20000 in
theorem ggX4_distance_X4_part : GoodIn wsX4_distance wsX4_part := goodIn_r _ [8, 9, 10, 7, 11] (by decide +kernel) (by decide +kernel)
set_option maxRecDepth 20000 in
theorem gX4_distance_X4_part : GoodIn wsX4_distance (va_wsS RX4 196 yX4_part wsX4_part) := goodIn_app (goodIn_of _ (by decide +kernel)) ggX4_distance_X4_part
theorem dX4_distance_0 : decode cX4_distance 0 = .ok (.iconst 0, 1) := by decide +kernel
theorem dX4_distance_1 : decode cX4_distance 1 = .ok (.istore_n 2, 1) := by decide +kernel
theorem dX4_distance_2 : decode cX4_distance 2 = .ok (.iconst 0, 1) := by decide +kernel
theorem dX4_distance_3 : decode cX4_distance 3 = .ok (.istore_n 3, 1) := by decide +kernel
theorem dX4_distance_4 : decode cX4_distance 4 = .ok (.iload_n 3, 1) := by decide +kernel
theorem dX4_distance_5 : decode cX4_distance 5 = .ok (.iconst 3, 1) := by decide +kernel
theorem dX4_distance_6 : decode cX4_distance 6 = .ok (.if_icmp .ge 26, 3) := by decide +kernel
theorem dX4_distance_9 : decode cX4_distance 9 = .ok (.iload_n 2, 1) := by decide +kernel
theorem dX4_distance_10 : decode cX4_distance 10 = .ok (.iload_n 0, 1) := by decide +kernel
theorem dX4_distance_11 : decode cX4_distance 11 = .ok (.iload_n 3, 1) := by decide +kernel
theorem dX4_distance_12 : decode cX4_distance 12 = .ok (.invokestatic 196, 3) := by decide +kernel
theorem dX4_distance_15 : decode cX4_distance 15 = .ok (.iload_n 1, 1) := by decide +kernel
theorem dX4_distance_16 : decode cX4_distance 16 = .ok (.iload_n 3, 1) := by decide +kernel
theorem dX4_distance_17 : decode cX4_distance 17 = .ok (.invokestatic 196, 3) := by decide +kernel
theorem dX4_distance_20 : decode cX4_distance 20 = .ok (.isub, 1) := by decide +kernel
theorem dX4_distance_21 : decode cX4_distance 21 = .ok (.invokestatic 199, 3) := by decide +kernel
theorem dX4_distance_24 : decode cX4_distance 24 = .ok (.iadd, 1) := by decide +kernel
theorem dX4_distance_25 : decode cX4_distance 25 = .ok (.istore_n 2, 1) := by decide +kernel
theorem dX4_distance_26 : decode cX4_distance 26 = .ok (.iinc 3 1, 3) := by decide +kernel
theorem dX4_distance_29 : decode cX4_distance 29 = .ok (.goto (-25), 3) := by decide +kernel
theorem dX4_distance_32 : decode cX4_distance 32 = .ok (.iload_n 2, 1) := by decide +kernel
theorem dX4_distance_33 : decode cX4_distance 33 = .ok (.ireturn, 1) := by decide +kernel
set_option maxRecDepth 20000 in
theorem ggX4_composedColour_X4_part : GoodIn wsX4_composedColour wsX4_part := goodIn_r _ [4, 5, 6, 3, 7] (by decide +kernel) (by decide +kernel)
set_option maxRecDepth 20000 in
theorem gX4_composedColour_X4_part : GoodIn wsX4_composedColour (va_wsS RX4 196 yX4_part wsX4_part) := goodIn_app (goodIn_of _ (by decide +kernel)) ggX4_composedColour_X4_part
set_option maxRecDepth 20000 in
theorem ggX4_composedColour_X4_partShift : GoodIn wsX4_composedColour wsX4_partShift := goodIn_r _ [7] (by decide +kernel) (by decide +kernel)
set_option maxRecDepth 20000 in
theorem gX4_composedColour_X4_partShift : GoodIn wsX4_composedColour (va_wsS RX4 193 yX4_partShift wsX4_partShift) := goodIn_app (goodIn_of _ (by decide +kernel)) ggX4_composedColour_X4_partShift
theorem dX4_composedColour_0 : decode cX4_composedColour 0 = .ok (.iconst 0, 1) := by decide +kernel
theorem dX4_composedColour_1 : decode cX4_composedColour 1 = .ok (.istore_n 3, 1) := by decide +kernel
theorem dX4_composedColour_2 : decode cX4_composedColour 2 = .ok (.iconst 0, 1) := by decide +kernel
theorem dX4_composedColour_3 : decode cX4_composedColour 3 = .ok (.istore 4, 2) := by decide +kernel
theorem dX4_composedColour_5 : decode cX4_composedColour 5 = .ok (.iload 4, 2) := by decide +kernel
theorem dX4_composedColour_7 : decode cX4_composedColour 7 = .ok (.iconst 3, 1) := by decide +kernel
theorem dX4_composedColour_8 : decode cX4_composedColour 8 = .ok (.if_icmp .ge 45, 3) := by decide +kernel
theorem dX4_composedColour_11 : decode cX4_composedColour 11 = .ok (.iload_n 0, 1) := by decide +kernel
theorem dX4_composedColour_12 : decode cX4_composedColour 12 = .ok (.iload 4, 2) := by decide +kernel
theorem dX4_composedColour_14 : decode cX4_composedColour 14 = .ok (.invokestatic 196, 3) := by decide +kernel
theorem dX4_composedColour_17 : decode cX4_composedColour 17 = .ok (.iload_n 2, 1) := by decide +kernel
theorem dX4_composedColour_18 : decode cX4_composedColour 18 = .ok (.imul, 1) := by decide +kernel
theorem dX4_composedColour_19 : decode cX4_composedColour 19 = .ok (.iload_n 1, 1) := by decide +kernel
theorem dX4_composedColour_20 : decode cX4_composedColour 20 = .ok (.iload 4, 2) := by decide +kernel
theorem dX4_composedColour_22 : decode cX4_composedColour 22 = .ok (.invokestatic 196, 3) := by decide +kernel
theorem dX4_composedColour_25 : decode cX4_composedColour 25 = .ok (.bipush 16, 2) := by decide +kernel
theorem dX4_composedColour_27 : decode cX4_composedColour 27 = .ok (.iload_n 2, 1) := by decide +kernel
theorem dX4_composedColour_28 : decode cX4_composedColour 28 = .ok (.isub, 1) := by decide +kernel
theorem dX4_composedColour_29 : decode cX4_composedColour 29 = .ok (.imul, 1) := by decide +kernel
theorem dX4_composedColour_30 : decode cX4_composedColour 30 = .ok (.iadd, 1) := by decide +kernel
theorem dX4_composedColour_31 : decode cX4_composedColour 31 = .ok (.bipush 16, 2) := by decide +kernel
theorem dX4_composedColour_33 : decode cX4_composedColour 33 = .ok (.idiv, 1) := by decide +kernel
theorem dX4_composedColour_34 : decode cX4_composedColour 34 = .ok (.istore 5, 2) := by decide +kernel
theorem dX4_composedColour_36 : decode cX4_composedColour 36 = .ok (.iload_n 3, 1) := by decide +kernel
theorem dX4_composedColour_37 : decode cX4_composedColour 37 = .ok (.iload 5, 2) := by decide +kernel
theorem dX4_composedColour_39 : decode cX4_composedColour 39 = .ok (.iload 4, 2) := by decide +kernel
theorem dX4_composedColour_41 : decode cX4_composedColour 41 = .ok (.invokestatic 193, 3) := by decide +kernel
theorem dX4_composedColour_44 : decode cX4_composedColour 44 = .ok (.ishl, 1) := by decide +kernel
theorem dX4_composedColour_45 : decode cX4_composedColour 45 = .ok (.ior, 1) := by decide +kernel
theorem dX4_composedColour_46 : decode cX4_composedColour 46 = .ok (.istore_n 3, 1) := by decide +kernel
theorem dX4_composedColour_47 : decode cX4_composedColour 47 = .ok (.iinc 4 1, 3) := by decide +kernel
theorem dX4_composedColour_50 : decode cX4_composedColour 50 = .ok (.goto (-45), 3) := by decide +kernel
theorem dX4_composedColour_53 : decode cX4_composedColour 53 = .ok (.iload_n 3, 1) := by decide +kernel
theorem dX4_composedColour_54 : decode cX4_composedColour 54 = .ok (.ireturn, 1) := by decide +kernel
theorem dX4_sum_0 : decode cX4_sum 0 = .ok (.iconst 0, 1) := by decide +kernel
theorem dX4_sum_1 : decode cX4_sum 1 = .ok (.istore_n 1, 1) := by decide +kernel
theorem dX4_sum_2 : decode cX4_sum 2 = .ok (.aload_n 0, 1) := by decide +kernel
theorem dX4_sum_3 : decode cX4_sum 3 = .ok (.astore_n 2, 1) := by decide +kernel
theorem dX4_sum_4 : decode cX4_sum 4 = .ok (.aload_n 2, 1) := by decide +kernel
theorem dX4_sum_5 : decode cX4_sum 5 = .ok (.arraylength, 1) := by decide +kernel
theorem dX4_sum_6 : decode cX4_sum 6 = .ok (.istore_n 3, 1) := by decide +kernel
theorem dX4_sum_7 : decode cX4_sum 7 = .ok (.iconst 0, 1) := by decide +kernel
theorem dX4_sum_8 : decode cX4_sum 8 = .ok (.istore 4, 2) := by decide +kernel
theorem dX4_sum_10 : decode cX4_sum 10 = .ok (.iload 4, 2) := by decide +kernel
theorem dX4_sum_12 : decode cX4_sum 12 = .ok (.iload_n 3, 1) := by decide +kernel
theorem dX4_sum_13 : decode cX4_sum 13 = .ok (.if_icmp .ge 20, 3) := by decide +kernel
theorem dX4_sum_16 : decode cX4_sum 16 = .ok (.aload_n 2, 1) := by decide +kernel
theorem dX4_sum_17 : decode cX4_sum 17 = .ok (.iload 4, 2) := by decide +kernel
theorem dX4_sum_19 : decode cX4_sum 19 = .ok (.iaload, 1) := by decide +kernel
theorem dX4_sum_20 : decode cX4_sum 20 = .ok (.istore 5, 2) := by decide +kernel
theorem dX4_sum_22 : decode cX4_sum 22 = .ok (.iload_n 1, 1) := by decide +kernel
theorem dX4_sum_23 : decode cX4_sum 23 = .ok (.iload 5, 2) := by decide +kernel
theorem dX4_sum_25 : decode cX4_sum 25 = .ok (.iadd, 1) := by decide +kernel
theorem dX4_sum_26 : decode cX4_sum 26 = .ok (.istore_n 1, 1) := by decide +kernel
theorem dX4_sum_27 : decode cX4_sum 27 = .ok (.iinc 4 1, 3) := by decide +kernel
theorem dX4_sum_30 : decode cX4_sum 30 = .ok (.goto (-20), 3) := by decide +kernel
theorem dX4_sum_33 : decode cX4_sum 33 = .ok (.iload_n 1, 1) := by decide +kernel
theorem dX4_sum_34 : decode cX4_sum 34 = .ok (.ireturn, 1) := by decide +kernel
theorem dX4_sameColours_0 : decode cX4_sameColours 0 = .ok (.iconst 0, 1) := by decide +kernel
theorem dX4_sameColours_1 : decode cX4_sameColours 1 = .ok (.istore_n 2, 1) := by decide +kernel
theorem dX4_sameColours_2 : decode cX4_sameColours 2 = .ok (.iconst 0, 1) := by decide +kernel
theorem dX4_sameColours_3 : decode cX4_sameColours 3 = .ok (.istore_n 3, 1) := by decide +kernel
theorem dX4_sameColours_4 : decode cX4_sameColours 4 = .ok (.iload_n 3, 1) := by decide +kernel
theorem dX4_sameColours_5 : decode cX4_sameColours 5 = .ok (.bipush 48, 2) := by decide +kernel
theorem dX4_sameColours_7 : decode cX4_sameColours 7 = .ok (.if_icmp .ge 21, 3) := by decide +kernel
theorem dX4_sameColours_10 : decode cX4_sameColours 10 = .ok (.aload_n 0, 1) := by decide +kernel
theorem dX4_sameColours_11 : decode cX4_sameColours 11 = .ok (.iload_n 3, 1) := by decide +kernel
theorem dX4_sameColours_12 : decode cX4_sameColours 12 = .ok (.iaload, 1) := by decide +kernel
theorem dX4_sameColours_13 : decode cX4_sameColours 13 = .ok (.aload_n 1, 1) := by decide +kernel
theorem dX4_sameColours_14 : decode cX4_sameColours 14 = .ok (.iload_n 3, 1) := by decide +kernel
theorem dX4_sameColours_15 : decode cX4_sameColours 15 = .ok (.iaload, 1) := by decide +kernel
theorem dX4_sameColours_16 : decode cX4_sameColours 16 = .ok (.if_icmp .ne 6, 3) := by decide +kernel
theorem dX4_sameColours_19 : decode cX4_sameColours 19 = .ok (.iinc 2 1, 3) := by decide +kernel
theorem dX4_sameColours_22 : decode cX4_sameColours 22 = .ok (.iinc 3 1, 3) := by decide +kernel
theorem dX4_sameColours_25 : decode cX4_sameColours 25 = .ok (.goto (-21), 3) := by decide +kernel
theorem dX4_sameColours_28 : decode cX4_sameColours 28 = .ok (.iload_n 2, 1) := by decide +kernel
theorem dX4_sameColours_29 : decode cX4_sameColours 29 = .ok (.ireturn, 1) := by decide +kernel
theorem dJ9_floorMod_7cf53_0 : decode cJ9_floorMod_7cf53 0 = .ok (.iload_n 0, 1) := by decide +kernel
theorem dJ9_floorMod_7cf53_1 : decode cJ9_floorMod_7cf53 1 = .ok (.iload_n 1, 1) := by decide +kernel
theorem dJ9_floorMod_7cf53_2 : decode cJ9_floorMod_7cf53 2 = .ok (.irem, 1) := by decide +kernel
theorem dJ9_floorMod_7cf53_3 : decode cJ9_floorMod_7cf53 3 = .ok (.istore_n 2, 1) := by decide +kernel
theorem dJ9_floorMod_7cf53_4 : decode cJ9_floorMod_7cf53 4 = .ok (.iload_n 0, 1) := by decide +kernel
theorem dJ9_floorMod_7cf53_5 : decode cJ9_floorMod_7cf53 5 = .ok (.iload_n 1, 1) := by decide +kernel
theorem dJ9_floorMod_7cf53_6 : decode cJ9_floorMod_7cf53 6 = .ok (.ixor, 1) := by decide +kernel
theorem dJ9_floorMod_7cf53_7 : decode cJ9_floorMod_7cf53 7 = .ok (.ifCond .ge 11, 3) := by decide +kernel
theorem dJ9_floorMod_7cf53_10 : decode cJ9_floorMod_7cf53 10 = .ok (.iload_n 2, 1) := by decide +kernel
theorem dJ9_floorMod_7cf53_11 : decode cJ9_floorMod_7cf53 11 = .ok (.ifCond .eq 7, 3) := by decide +kernel
theorem dJ9_floorMod_7cf53_14 : decode cJ9_floorMod_7cf53 14 = .ok (.iload_n 2, 1) := by decide +kernel
theorem dJ9_floorMod_7cf53_15 : decode cJ9_floorMod_7cf53 15 = .ok (.iload_n 1, 1) := by decide +kernel
theorem dJ9_floorMod_7cf53_16 : decode cJ9_floorMod_7cf53 16 = .ok (.iadd, 1) := by decide +kernel
theorem dJ9_floorMod_7cf53_17 : decode cJ9_floorMod_7cf53 17 = .ok (.ireturn, 1) := by decide +kernel
theorem dJ9_floorMod_7cf53_18 : decode cJ9_floorMod_7cf53 18 = .ok (.iload_n 2, 1) := by decide +kernel
theorem dJ9_floorMod_7cf53_19 : decode cJ9_floorMod_7cf53 19 = .ok (.ireturn, 1) := by decide +kernel
theorem dJ9_abs_0f7a4_0 : decode cJ9_abs_0f7a4 0 = .ok (.iload_n 0, 1) := by decide +kernel
theorem dJ9_abs_0f7a4_1 : decode cJ9_abs_0f7a4 1 = .ok (.ifCond .ge 8, 3) := by decide +kernel
theorem dJ9_abs_0f7a4_4 : decode cJ9_abs_0f7a4 4 = .ok (.iload_n 0, 1) := by decide +kernel
theorem dJ9_abs_0f7a4_5 : decode cJ9_abs_0f7a4 5 = .ok (.ineg, 1) := by decide +kernel
theorem dJ9_abs_0f7a4_6 : decode cJ9_abs_0f7a4 6 = .ok (.goto 4, 3) := by decide +kernel
theorem dJ9_abs_0f7a4_9 : decode cJ9_abs_0f7a4 9 = .ok (.iload_n 0, 1) := by decide +kernel
theorem dJ9_abs_0f7a4_10 : decode cJ9_abs_0f7a4 10 = .ok (.ireturn, 1) := by decide +kernel
theorem dJ9_max_7cf53_0 : decode cJ9_max_7cf53 0 = .ok (.iload_n 0, 1) := by decide +kernel
theorem dJ9_max_7cf53_1 : decode cJ9_max_7cf53 1 = .ok (.iload_n 1, 1) := by decide +kernel
theorem dJ9_max_7cf53_2 : decode cJ9_max_7cf53 2 = .ok (.if_icmp .lt 7, 3) := by decide +kernel
theorem dJ9_max_7cf53_5 : decode cJ9_max_7cf53 5 = .ok (.iload_n 0, 1) := by decide +kernel
theorem dJ9_max_7cf53_6 : decode cJ9_max_7cf53 6 = .ok (.goto 4, 3) := by decide +kernel
theorem dJ9_max_7cf53_9 : decode cJ9_max_7cf53 9 = .ok (.iload_n 1, 1) := by decide +kernel
theorem dJ9_max_7cf53_10 : decode cJ9_max_7cf53 10 = .ok (.ireturn, 1) := by decide +kernel
theorem dJ9_min_7cf53_0 : decode cJ9_min_7cf53 0 = .ok (.iload_n 0, 1) := by decide +kernel
theorem dJ9_min_7cf53_1 : decode cJ9_min_7cf53 1 = .ok (.iload_n 1, 1) := by decide +kernel
theorem dJ9_min_7cf53_2 : decode cJ9_min_7cf53 2 = .ok (.if_icmp .gt 7, 3) := by decide +kernel
theorem dJ9_min_7cf53_5 : decode cJ9_min_7cf53 5 = .ok (.iload_n 0, 1) := by decide +kernel
theorem dJ9_min_7cf53_6 : decode cJ9_min_7cf53 6 = .ok (.goto 4, 3) := by decide +kernel
theorem dJ9_min_7cf53_9 : decode cJ9_min_7cf53 9 = .ok (.iload_n 1, 1) := by decide +kernel
theorem dJ9_min_7cf53_10 : decode cJ9_min_7cf53 10 = .ok (.ireturn, 1) := by decide +kernel
theorem dL_cell_0 : decode cL_cell 0 = .ok (.iload_n 1, 1) := by decide +kernel
theorem dL_cell_1 : decode cL_cell 1 = .ok (.aload_n 0, 1) := by decide +kernel
theorem dL_cell_2 : decode cL_cell 2 = .ok (.arraylength, 1) := by decide +kernel
theorem dL_cell_3 : decode cL_cell 3 = .ok (.if_icmp .ge 9, 3) := by decide +kernel
theorem dL_cell_6 : decode cL_cell 6 = .ok (.aload_n 0, 1) := by decide +kernel
theorem dL_cell_7 : decode cL_cell 7 = .ok (.iload_n 1, 1) := by decide +kernel
theorem dL_cell_8 : decode cL_cell 8 = .ok (.iaload, 1) := by decide +kernel
theorem dL_cell_9 : decode cL_cell 9 = .ok (.goto 11, 3) := by decide +kernel
theorem dL_cell_12 : decode cL_cell 12 = .ok (.ldc 7, 2) := by decide +kernel
theorem dL_cell_14 : decode cL_cell 14 = .ok (.iload_n 1, 1) := by decide +kernel
theorem dL_cell_15 : decode cL_cell 15 = .ok (.sipush 1321, 3) := by decide +kernel
theorem dL_cell_18 : decode cL_cell 18 = .ok (.iadd, 1) := by decide +kernel
theorem dL_cell_19 : decode cL_cell 19 = .ok (.imul, 1) := by decide +kernel
theorem dL_cell_20 : decode cL_cell 20 = .ok (.ireturn, 1) := by decide +kernel
theorem dL_up_0 : decode cL_up 0 = .ok (.iload_n 0, 1) := by decide +kernel
theorem dL_up_1 : decode cL_up 1 = .ok (.ldc 8, 2) := by decide +kernel
theorem dL_up_3 : decode cL_up 3 = .ok (.iand, 1) := by decide +kernel
theorem dL_up_4 : decode cL_up 4 = .ok (.iload_n 1, 1) := by decide +kernel
theorem dL_up_5 : decode cL_up 5 = .ok (.irem, 1) := by decide +kernel
theorem dL_up_6 : decode cL_up 6 = .ok (.ireturn, 1) := by decide +kernel
theorem dL_there_0 : decode cL_there 0 = .ok (.iload_n 0, 1) := by decide +kernel
theorem dL_there_1 : decode cL_there 1 = .ok (.iload_n 0, 1) := by decide +kernel
theorem dL_there_2 : decode cL_there 2 = .ok (.bipush 8, 2) := by decide +kernel
theorem dL_there_4 : decode cL_there 4 = .ok (.irem, 1) := by decide +kernel
theorem dL_there_5 : decode cL_there 5 = .ok (.isub, 1) := by decide +kernel
theorem dL_there_6 : decode cL_there 6 = .ok (.bipush 7, 2) := by decide +kernel
theorem dL_there_8 : decode cL_there 8 = .ok (.iadd, 1) := by decide +kernel
theorem dL_there_9 : decode cL_there 9 = .ok (.iload_n 0, 1) := by decide +kernel
theorem dL_there_10 : decode cL_there 10 = .ok (.bipush 8, 2) := by decide +kernel
theorem dL_there_12 : decode cL_there 12 = .ok (.irem, 1) := by decide +kernel
theorem dL_there_13 : decode cL_there 13 = .ok (.isub, 1) := by decide +kernel
theorem dL_there_14 : decode cL_there 14 = .ok (.ireturn, 1) := by decide +kernel
set_option maxRecDepth 20000 in
theorem ggL_digit_X4_put : GoodIn wsL_digit wsX4_put := goodIn_r _ [5, 6, 7, 8, 9, 4, 10, 11, 12, 13, 14, 15, 16, 17, 18, 19, 20, 21, 22, 23, 24, 25, 26, 27, 28] (by decide +kernel) (by decide +kernel)
set_option maxRecDepth 20000 in
theorem gL_digit_X4_put : GoodIn wsL_digit (wsV RL 9 RX4 yX4_put wsX4_put) := goodIn_app (goodIn_of _ (by decide +kernel)) ggL_digit_X4_put
theorem dL_digit_0 : decode cL_digit 0 = .ok (.aload_n 0, 1) := by decide +kernel
theorem dL_digit_1 : decode cL_digit 1 = .ok (.iload_n 1, 1) := by decide +kernel
theorem dL_digit_2 : decode cL_digit 2 = .ok (.bipush 10, 2) := by decide +kernel
theorem dL_digit_4 : decode cL_digit 4 = .ok (.if_icmp .ge 11, 3) := by decide +kernel
theorem dL_digit_7 : decode cL_digit 7 = .ok (.bipush 48, 2) := by decide +kernel
theorem dL_digit_9 : decode cL_digit 9 = .ok (.iload_n 1, 1) := by decide +kernel
theorem dL_digit_10 : decode cL_digit 10 = .ok (.iadd, 1) := by decide +kernel
theorem dL_digit_11 : decode cL_digit 11 = .ok (.i2l, 1) := by decide +kernel
theorem dL_digit_12 : decode cL_digit 12 = .ok (.goto 11, 3) := by decide +kernel
theorem dL_digit_15 : decode cL_digit 15 = .ok (.bipush 97, 2) := by decide +kernel
theorem dL_digit_17 : decode cL_digit 17 = .ok (.iload_n 1, 1) := by decide +kernel
theorem dL_digit_18 : decode cL_digit 18 = .ok (.iadd, 1) := by decide +kernel
theorem dL_digit_19 : decode cL_digit 19 = .ok (.bipush 10, 2) := by decide +kernel
theorem dL_digit_21 : decode cL_digit 21 = .ok (.isub, 1) := by decide +kernel
theorem dL_digit_22 : decode cL_digit 22 = .ok (.i2l, 1) := by decide +kernel
theorem dL_digit_23 : decode cL_digit 23 = .ok (.invokevirtual 9, 3) := by decide +kernel
theorem dL_digit_26 : decode cL_digit 26 = .ok (.ifCond .le 7, 3) := by decide +kernel
theorem dL_digit_29 : decode cL_digit 29 = .ok (.iconst 1, 1) := by decide +kernel
theorem dL_digit_30 : decode cL_digit 30 = .ok (.goto 4, 3) := by decide +kernel
theorem dL_digit_33 : decode cL_digit 33 = .ok (.iconst 0, 1) := by decide +kernel
theorem dL_digit_34 : decode cL_digit 34 = .ok (.ireturn, 1) := by decide +kernel
set_option maxRecDepth 20000 in
theorem ggL_isRead_X4_wipe : GoodIn wsL_isRead wsX4_wipe := goodIn_r _ [6, 7, 8, 204, 205, 206, 207, 208, 209, 210, 211, 212] (by decide +kernel) (by decide +kernel)
set_option maxRecDepth 20000 in
theorem gL_isRead_X4_wipe : GoodIn wsL_isRead (wsV RL 15 RX4 yX4_wipe wsX4_wipe) := goodIn_app (goodIn_of _ (by decide +kernel)) ggL_isRead_X4_wipe
set_option maxRecDepth 20000 in
theorem ggL_isRead_L_up : GoodIn wsL_isRead wsL_up := goodIn_r _ [12, 13] (by decide +kernel) (by decide +kernel)
set_option maxRecDepth 20000 in
theorem gL_isRead_L_up : GoodIn wsL_isRead (va_wsS RL 19 yL_up wsL_up) := goodIn_app (goodIn_of _ (by decide +kernel)) ggL_isRead_L_up
set_option maxRecDepth 20000 in
theorem ggL_isRead_X4_count : GoodIn wsL_isRead wsX4_count := goodIn_r _ [17, 18, 19, 20, 21, 22, 23, 24, 25, 26, 27, 7, 8, 28, 29, 30, 31, 32, 33, 34, 35, 36, 37, 38, 39, 40, 41, 42, 43, 44, 45, 46, 47, 48, 49, 5, 50, 51, 52, 53, 54, 55, 56, 57, 58, 59, 60, 61, 62, 63, 64, 65, 66, 67, 68, 69, 70, 71, 72, 73, 74, 75, 76, 77, 78, 79, 80, 81, 82, 83, 84, 85, 86, 87, 88, 89, 90, 91, 92, 93, 94, 95, 96, 97, 98, 99, 100, 101, 102, 103, 104, 105, 106, 107, 108, 109, 110, 111, 112, 113, 114, 115, 116, 117, 118, 119, 120, 121, 122, 123, 124, 125, 126, 127, 128, 129, 130, 131, 132, 133, 134, 135, 136, 137, 138, 139, 140, 204, 205, 206, 207, 208, 209, 210, 213, 214, 215, 216, 217, 218, 219, 220, 221, 222, 223, 224, 225, 226, 227, 211, 212, 228, 229, 230] (by decide +kernel) (by decide +kernel)
set_option maxRecDepth 20000 in
theorem gL_isRead_X4_count : GoodIn wsL_isRead (wsV RL 25 RX4 yX4_count wsX4_count) := goodIn_app (goodIn_of _ (by decide +kernel)) ggL_isRead_X4_count
set_option maxRecDepth 20000 in
theorem ggL_isRead_X4_put : GoodIn wsL_isRead wsX4_put := goodIn_r _ [144, 7, 8, 145, 146, 5, 147, 148, 149, 150, 151, 152, 153, 154, 155, 156, 204, 205, 206, 207, 208, 209, 210, 211, 212] (by decide +kernel) (by decide +kernel)
set_option maxRecDepth 20000 in
theorem gL_isRead_X4_put : GoodIn wsL_isRead (wsV RL 9 RX4 yX4_put wsX4_put) := goodIn_app (goodIn_of _ (by decide +kernel)) ggL_isRead_X4_put
set_option maxRecDepth 20000 in
theorem ggL_isRead_L_digit : GoodIn wsL_isRead wsL_digit := goodIn_r _ [159, 141, 142, 143, 5, 144, 7, 8, 145, 146, 147, 148, 149, 150, 151, 152, 153, 154, 155, 156, 204, 205, 206, 207, 208, 209, 210, 211, 212] (by decide +kernel) (by decide +kernel)
set_option maxRecDepth 20000 in
theorem gL_isRead_L_digit : GoodIn wsL_isRead (va_wsS RL 31 yL_digit wsL_digit) := goodIn_app (goodIn_of _ (by decide +kernel)) ggL_isRead_L_digit
set_option maxRecDepth 20000 in
theorem ggL_isRead_X4_read : GoodIn wsL_isRead wsX4_read := goodIn_r _ [163, 7, 28, 18, 8, 164, 165, 5, 166, 167, 168, 169, 152, 170, 154, 155, 171, 172, 173, 174, 175, 176, 177, 178, 179, 180, 181, 182, 183, 184, 185, 186, 187, 188, 45, 189, 190, 191, 192, 193, 194, 47, 195, 140, 48, 196, 197, 198, 199, 200, 201, 202, 203, 49, 50, 204, 205, 206, 207, 208, 209, 210, 211, 212, 228, 229, 230, 213, 214, 215, 216, 217] (by decide +kernel) (by decide +kernel)
set_option maxRecDepth 20000 in
theorem gL_isRead_X4_read : GoodIn wsL_isRead (wsV RL 35 RX4 yX4_read wsX4_read) := goodIn_app (goodIn_of _ (by decide +kernel)) ggL_isRead_X4_read
theorem dL_isRead_0 : decode cL_isRead 0 = .ok (.aload_n 0, 1) := by decide +kernel
theorem dL_isRead_1 : decode cL_isRead 1 = .ok (.invokevirtual 15, 3) := by decide +kernel
theorem dL_isRead_4 : decode cL_isRead 4 = .ok (.ifCond .lt 14, 3) := by decide +kernel
theorem dL_isRead_7 : decode cL_isRead 7 = .ok (.aload_n 1, 1) := by decide +kernel
theorem dL_isRead_8 : decode cL_isRead 8 = .ok (.invokevirtual 15, 3) := by decide +kernel
theorem dL_isRead_11 : decode cL_isRead 11 = .ok (.ifCond .lt 7, 3) := by decide +kernel
theorem dL_isRead_14 : decode cL_isRead 14 = .ok (.iconst 1, 1) := by decide +kernel
theorem dL_isRead_15 : decode cL_isRead 15 = .ok (.goto 4, 3) := by decide +kernel
theorem dL_isRead_18 : decode cL_isRead 18 = .ok (.iconst 0, 1) := by decide +kernel
theorem dL_isRead_19 : decode cL_isRead 19 = .ok (.istore 6, 2) := by decide +kernel
theorem dL_isRead_21 : decode cL_isRead 21 = .ok (.iconst 0, 1) := by decide +kernel
theorem dL_isRead_22 : decode cL_isRead 22 = .ok (.istore 7, 2) := by decide +kernel
theorem dL_isRead_24 : decode cL_isRead 24 = .ok (.iconst 0, 1) := by decide +kernel
theorem dL_isRead_25 : decode cL_isRead 25 = .ok (.istore 8, 2) := by decide +kernel
theorem dL_isRead_27 : decode cL_isRead 27 = .ok (.iload 8, 2) := by decide +kernel
theorem dL_isRead_29 : decode cL_isRead 29 = .ok (.bipush 16, 2) := by decide +kernel
theorem dL_isRead_31 : decode cL_isRead 31 = .ok (.if_icmp .ge 192, 3) := by decide +kernel
theorem dL_isRead_34 : decode cL_isRead 34 = .ok (.iload 8, 2) := by decide +kernel
theorem dL_isRead_36 : decode cL_isRead 36 = .ok (.bipush 8, 2) := by decide +kernel
theorem dL_isRead_38 : decode cL_isRead 38 = .ok (.if_icmp .ge 8, 3) := by decide +kernel
theorem dL_isRead_41 : decode cL_isRead 41 = .ok (.iload 8, 2) := by decide +kernel
theorem dL_isRead_43 : decode cL_isRead 43 = .ok (.goto 8, 3) := by decide +kernel
theorem dL_isRead_46 : decode cL_isRead 46 = .ok (.bipush 15, 2) := by decide +kernel
theorem dL_isRead_48 : decode cL_isRead 48 = .ok (.iload 8, 2) := by decide +kernel
theorem dL_isRead_50 : decode cL_isRead 50 = .ok (.isub, 1) := by decide +kernel
theorem dL_isRead_51 : decode cL_isRead 51 = .ok (.istore 9, 2) := by decide +kernel
theorem dL_isRead_53 : decode cL_isRead 53 = .ok (.iload 4, 2) := by decide +kernel
theorem dL_isRead_55 : decode cL_isRead 55 = .ok (.iload 9, 2) := by decide +kernel
theorem dL_isRead_57 : decode cL_isRead 57 = .ok (.ishr, 1) := by decide +kernel
theorem dL_isRead_58 : decode cL_isRead 58 = .ok (.iload 5, 2) := by decide +kernel
theorem dL_isRead_60 : decode cL_isRead 60 = .ok (.iconst 2, 1) := by decide +kernel
theorem dL_isRead_61 : decode cL_isRead 61 = .ok (.iload 9, 2) := by decide +kernel
theorem dL_isRead_63 : decode cL_isRead 63 = .ok (.imul, 1) := by decide +kernel
theorem dL_isRead_64 : decode cL_isRead 64 = .ok (.ishr, 1) := by decide +kernel
theorem dL_isRead_65 : decode cL_isRead 65 = .ok (.ixor, 1) := by decide +kernel
theorem dL_isRead_66 : decode cL_isRead 66 = .ok (.istore 10, 2) := by decide +kernel
theorem dL_isRead_68 : decode cL_isRead 68 = .ok (.iload 8, 2) := by decide +kernel
theorem dL_isRead_70 : decode cL_isRead 70 = .ok (.bipush 8, 2) := by decide +kernel
theorem dL_isRead_72 : decode cL_isRead 72 = .ok (.if_icmp .ge 7, 3) := by decide +kernel
theorem dL_isRead_75 : decode cL_isRead 75 = .ok (.aload_n 0, 1) := by decide +kernel
theorem dL_isRead_76 : decode cL_isRead 76 = .ok (.goto 4, 3) := by decide +kernel
theorem dL_isRead_79 : decode cL_isRead 79 = .ok (.aload_n 1, 1) := by decide +kernel
theorem dL_isRead_80 : decode cL_isRead 80 = .ok (.astore 11, 2) := by decide +kernel
theorem dL_isRead_82 : decode cL_isRead 82 = .ok (.iload 10, 2) := by decide +kernel
theorem dL_isRead_84 : decode cL_isRead 84 = .ok (.iconst 3, 1) := by decide +kernel
theorem dL_isRead_85 : decode cL_isRead 85 = .ok (.invokestatic 19, 3) := by decide +kernel
theorem dL_isRead_88 : decode cL_isRead 88 = .ok (.ifCond .ne 12, 3) := by decide +kernel
theorem dL_isRead_91 : decode cL_isRead 91 = .ok (.aload_n 0, 1) := by decide +kernel
theorem dL_isRead_92 : decode cL_isRead 92 = .ok (.bipush 6, 2) := by decide +kernel
theorem dL_isRead_94 : decode cL_isRead 94 = .ok (.invokevirtual 25, 3) := by decide +kernel
theorem dL_isRead_97 : decode cL_isRead 97 = .ok (.goto 13, 3) := by decide +kernel
theorem dL_isRead_100 : decode cL_isRead 100 = .ok (.iload 10, 2) := by decide +kernel
theorem dL_isRead_102 : decode cL_isRead 102 = .ok (.iconst 2, 1) := by decide +kernel
theorem dL_isRead_103 : decode cL_isRead 103 = .ok (.ishr, 1) := by decide +kernel
theorem dL_isRead_104 : decode cL_isRead 104 = .ok (.sipush 4096, 3) := by decide +kernel
theorem dL_isRead_107 : decode cL_isRead 107 = .ok (.invokestatic 19, 3) := by decide +kernel
theorem dL_isRead_110 : decode cL_isRead 110 = .ok (.istore 12, 2) := by decide +kernel
theorem dL_isRead_112 : decode cL_isRead 112 = .ok (.iload 10, 2) := by decide +kernel
theorem dL_isRead_114 : decode cL_isRead 114 = .ok (.iconst 5, 1) := by decide +kernel
theorem dL_isRead_115 : decode cL_isRead 115 = .ok (.invokestatic 19, 3) := by decide +kernel
theorem dL_isRead_118 : decode cL_isRead 118 = .ok (.ifCond .ne 7, 3) := by decide +kernel
theorem dL_isRead_121 : decode cL_isRead 121 = .ok (.iconst 1, 1) := by decide +kernel
theorem dL_isRead_122 : decode cL_isRead 122 = .ok (.goto 4, 3) := by decide +kernel
theorem dL_isRead_125 : decode cL_isRead 125 = .ok (.iconst 0, 1) := by decide +kernel
theorem dL_isRead_126 : decode cL_isRead 126 = .ok (.istore 13, 2) := by decide +kernel
theorem dL_isRead_128 : decode cL_isRead 128 = .ok (.iload 7, 2) := by decide +kernel
theorem dL_isRead_130 : decode cL_isRead 130 = .ok (.iload 13, 2) := by decide +kernel
theorem dL_isRead_132 : decode cL_isRead 132 = .ok (.ifCond .eq 7, 3) := by decide +kernel
theorem dL_isRead_135 : decode cL_isRead 135 = .ok (.iconst 1, 1) := by decide +kernel
theorem dL_isRead_136 : decode cL_isRead 136 = .ok (.goto 4, 3) := by decide +kernel
theorem dL_isRead_139 : decode cL_isRead 139 = .ok (.iconst 0, 1) := by decide +kernel
theorem dL_isRead_140 : decode cL_isRead 140 = .ok (.iadd, 1) := by decide +kernel
theorem dL_isRead_141 : decode cL_isRead 141 = .ok (.istore 7, 2) := by decide +kernel
theorem dL_isRead_143 : decode cL_isRead 143 = .ok (.iload 6, 2) := by decide +kernel
theorem dL_isRead_145 : decode cL_isRead 145 = .ok (.ifCond .eq 69, 3) := by decide +kernel
theorem dL_isRead_148 : decode cL_isRead 148 = .ok (.iload 13, 2) := by decide +kernel
theorem dL_isRead_150 : decode cL_isRead 150 = .ok (.ifCond .eq 17, 3) := by decide +kernel
theorem dL_isRead_153 : decode cL_isRead 153 = .ok (.aload 11, 2) := by decide +kernel
theorem dL_isRead_155 : decode cL_isRead 155 = .ok (.ldc2_w 29, 3) := by decide +kernel
theorem dL_isRead_158 : decode cL_isRead 158 = .ok (.invokevirtual 9, 3) := by decide +kernel
theorem dL_isRead_161 : decode cL_isRead 161 = .ok (.ifCond .le 53, 3) := by decide +kernel
theorem dL_isRead_164 : decode cL_isRead 164 = .ok (.goto 46, 3) := by decide +kernel
theorem dL_isRead_167 : decode cL_isRead 167 = .ok (.aload 11, 2) := by decide +kernel
theorem dL_isRead_169 : decode cL_isRead 169 = .ok (.iload 12, 2) := by decide +kernel
theorem dL_isRead_171 : decode cL_isRead 171 = .ok (.sipush 256, 3) := by decide +kernel
theorem dL_isRead_174 : decode cL_isRead 174 = .ok (.idiv, 1) := by decide +kernel
theorem dL_isRead_175 : decode cL_isRead 175 = .ok (.invokestatic 31, 3) := by decide +kernel
theorem dL_isRead_178 : decode cL_isRead 178 = .ok (.ifCond .eq 36, 3) := by decide +kernel
theorem dL_isRead_181 : decode cL_isRead 181 = .ok (.aload 11, 2) := by decide +kernel
theorem dL_isRead_183 : decode cL_isRead 183 = .ok (.iload 12, 2) := by decide +kernel
theorem dL_isRead_185 : decode cL_isRead 185 = .ok (.bipush 16, 2) := by decide +kernel
theorem dL_isRead_187 : decode cL_isRead 187 = .ok (.idiv, 1) := by decide +kernel
theorem dL_isRead_188 : decode cL_isRead 188 = .ok (.bipush 16, 2) := by decide +kernel
theorem dL_isRead_190 : decode cL_isRead 190 = .ok (.irem, 1) := by decide +kernel
theorem dL_isRead_191 : decode cL_isRead 191 = .ok (.invokestatic 31, 3) := by decide +kernel
theorem dL_isRead_194 : decode cL_isRead 194 = .ok (.ifCond .eq 20, 3) := by decide +kernel
theorem dL_isRead_197 : decode cL_isRead 197 = .ok (.aload 11, 2) := by decide +kernel
theorem dL_isRead_199 : decode cL_isRead 199 = .ok (.iload 12, 2) := by decide +kernel
theorem dL_isRead_201 : decode cL_isRead 201 = .ok (.bipush 16, 2) := by decide +kernel
theorem dL_isRead_203 : decode cL_isRead 203 = .ok (.irem, 1) := by decide +kernel
theorem dL_isRead_204 : decode cL_isRead 204 = .ok (.invokestatic 31, 3) := by decide +kernel
theorem dL_isRead_207 : decode cL_isRead 207 = .ok (.ifCond .eq 7, 3) := by decide +kernel
theorem dL_isRead_210 : decode cL_isRead 210 = .ok (.iconst 1, 1) := by decide +kernel
theorem dL_isRead_211 : decode cL_isRead 211 = .ok (.goto 4, 3) := by decide +kernel
theorem dL_isRead_214 : decode cL_isRead 214 = .ok (.iconst 0, 1) := by decide +kernel
theorem dL_isRead_215 : decode cL_isRead 215 = .ok (.istore 6, 2) := by decide +kernel
theorem dL_isRead_217 : decode cL_isRead 217 = .ok (.iinc 8 1, 3) := by decide +kernel
theorem dL_isRead_220 : decode cL_isRead 220 = .ok (.goto (-193), 3) := by decide +kernel
theorem dL_isRead_223 : decode cL_isRead 223 = .ok (.iload 6, 2) := by decide +kernel
theorem dL_isRead_225 : decode cL_isRead 225 = .ok (.ifCond .eq 48, 3) := by decide +kernel
theorem dL_isRead_228 : decode cL_isRead 228 = .ok (.aload_n 0, 1) := by decide +kernel
theorem dL_isRead_229 : decode cL_isRead 229 = .ok (.iload_n 2, 1) := by decide +kernel
theorem dL_isRead_230 : decode cL_isRead 230 = .ok (.iload_n 3, 1) := by decide +kernel
theorem dL_isRead_231 : decode cL_isRead 231 = .ok (.invokevirtual 35, 3) := by decide +kernel
theorem dL_isRead_234 : decode cL_isRead 234 = .ok (.bipush 8, 2) := by decide +kernel
theorem dL_isRead_236 : decode cL_isRead 236 = .ok (.iload 7, 2) := by decide +kernel
theorem dL_isRead_238 : decode cL_isRead 238 = .ok (.iconst 2, 1) := by decide +kernel
theorem dL_isRead_239 : decode cL_isRead 239 = .ok (.idiv, 1) := by decide +kernel
theorem dL_isRead_240 : decode cL_isRead 240 = .ok (.isub, 1) := by decide +kernel
theorem dL_isRead_241 : decode cL_isRead 241 = .ok (.if_icmp .ne 32, 3) := by decide +kernel
theorem dL_isRead_244 : decode cL_isRead 244 = .ok (.aload_n 1, 1) := by decide +kernel
theorem dL_isRead_245 : decode cL_isRead 245 = .ok (.iload_n 2, 1) := by decide +kernel
theorem dL_isRead_246 : decode cL_isRead 246 = .ok (.iload_n 3, 1) := by decide +kernel
theorem dL_isRead_247 : decode cL_isRead 247 = .ok (.invokevirtual 35, 3) := by decide +kernel
theorem dL_isRead_250 : decode cL_isRead 250 = .ok (.bipush 8, 2) := by decide +kernel
theorem dL_isRead_252 : decode cL_isRead 252 = .ok (.iload 7, 2) := by decide +kernel
theorem dL_isRead_254 : decode cL_isRead 254 = .ok (.iconst 2, 1) := by decide +kernel
theorem dL_isRead_255 : decode cL_isRead 255 = .ok (.idiv, 1) := by decide +kernel
theorem dL_isRead_256 : decode cL_isRead 256 = .ok (.isub, 1) := by decide +kernel
theorem dL_isRead_257 : decode cL_isRead 257 = .ok (.if_icmp .ne 16, 3) := by decide +kernel
theorem dL_isRead_260 : decode cL_isRead 260 = .ok (.aload_n 0, 1) := by decide +kernel
theorem dL_isRead_261 : decode cL_isRead 261 = .ok (.bipush 19, 2) := by decide +kernel
theorem dL_isRead_263 : decode cL_isRead 263 = .ok (.invokevirtual 25, 3) := by decide +kernel
theorem dL_isRead_266 : decode cL_isRead 266 = .ok (.ifCond .ne 7, 3) := by decide +kernel
theorem dL_isRead_269 : decode cL_isRead 269 = .ok (.iconst 1, 1) := by decide +kernel
theorem dL_isRead_270 : decode cL_isRead 270 = .ok (.goto 4, 3) := by decide +kernel
theorem dL_isRead_273 : decode cL_isRead 273 = .ok (.iconst 0, 1) := by decide +kernel
theorem dL_isRead_274 : decode cL_isRead 274 = .ok (.ireturn, 1) := by decide +kernel
set_option maxRecDepth 20000 in
theorem ggL_isStep_L_up : GoodIn wsL_isStep wsL_up := goodIn_r _ [4, 5] (by decide +kernel) (by decide +kernel)
set_option maxRecDepth 20000 in
theorem gL_isStep_L_up : GoodIn wsL_isStep (va_wsS RL 19 yL_up wsL_up) := goodIn_app (goodIn_of _ (by decide +kernel)) ggL_isStep_L_up
set_option maxRecDepth 20000 in
theorem ggL_isStep_X4_count : GoodIn wsL_isStep wsX4_count := goodIn_r _ [10, 11, 12, 13, 14, 15, 16, 17, 18, 19, 20, 21, 22, 23, 24, 25, 26, 27, 28, 29, 30, 31, 32, 33, 34, 35, 36, 37, 38, 39, 40, 41, 42, 43, 44, 9, 45, 46, 47, 48, 49, 50, 51, 52, 53, 54, 55, 56, 57, 58, 59, 60, 61, 62, 63, 64, 65, 66, 67, 68, 69, 70, 71, 72, 73, 74, 75, 76, 77, 78, 79, 80, 81, 82, 83, 84, 85, 86, 87, 88, 89, 90, 91, 92, 93, 94, 95, 96, 97, 98, 99, 100, 101, 102, 103, 104, 105, 106, 107, 108, 109, 110, 111, 112, 113, 114, 115, 116, 117, 118, 119, 120, 121, 122, 123, 124, 125, 126, 127, 128, 129, 130, 131, 132, 133, 134, 135, 302, 303, 304, 305, 306, 307, 308, 309, 310, 311, 312, 313, 314, 315, 316, 317, 318, 319, 320, 321, 322, 323, 324, 325, 326, 327, 328] (by decide +kernel) (by decide +kernel)
set_option maxRecDepth 20000 in
theorem gL_isStep_X4_count : GoodIn wsL_isStep (wsV RL 25 RX4 yX4_count wsX4_count) := goodIn_app (goodIn_of _ (by decide +kernel)) ggL_isStep_X4_count
set_option maxRecDepth 20000 in
theorem ggL_isStep_X4_ifSet : GoodIn wsL_isStep wsX4_ifSet := goodIn_r _ [139, 140, 11, 13, 141, 18, 142, 143, 144, 9, 145, 146, 12, 147, 148, 149, 150, 151, 152, 40, 153, 154, 155, 156, 157, 158, 42, 159, 135, 43, 160, 161, 162, 163, 25, 26, 27, 28, 29, 30, 31, 32, 33, 34, 35, 36, 37, 38, 39, 41, 44, 45, 46, 47, 48, 49, 50, 51, 52, 53, 54, 55, 56, 57, 58, 59, 60, 61, 62, 63, 64, 65, 66, 67, 68, 69, 70, 71, 72, 73, 74, 75, 76, 77, 78, 79, 80, 81, 82, 83, 84, 85, 86, 87, 88, 89, 90, 91, 92, 93, 94, 95, 96, 97, 98, 99, 100, 101, 102, 103, 104, 105, 106, 107, 108, 109, 110, 111, 112, 113, 114, 115, 116, 128, 129, 130, 302, 303, 304, 305, 306, 307, 308, 314, 315, 316, 317, 318, 319, 320, 321, 322, 323, 309, 310, 311, 312, 313] (by decide +kernel) (by decide +kernel)
set_option maxRecDepth 20000 in
theorem gL_isStep_X4_ifSet : GoodIn wsL_isStep (wsV RL 39 RX4 yX4_ifSet wsX4_ifSet) := goodIn_app (goodIn_of _ (by decide +kernel)) ggL_isStep_X4_ifSet
set_option maxRecDepth 20000 in
theorem ggL_isStep_X4_set : GoodIn wsL_isStep wsX4_set := goodIn_r _ [167, 23, 11, 142, 143, 144, 9, 145, 146, 12, 147, 148, 149, 168, 169, 170, 171, 172, 173, 174, 175, 176, 177, 178, 179, 180, 151, 152, 40, 153, 154, 155, 156, 157, 158, 42, 159, 135, 43, 160, 161, 162, 163, 302, 303, 304, 305, 306, 307, 308, 309, 310, 311, 312, 313, 326, 327, 328] (by decide +kernel) (by decide +kernel)
set_option maxRecDepth 20000 in
theorem gL_isStep_X4_set : GoodIn wsL_isStep (wsV RL 42 RX4 yX4_set wsX4_set) := goodIn_app (goodIn_of _ (by decide +kernel)) ggL_isStep_X4_set
set_option maxRecDepth 20000 in
theorem ggL_isStep_X4_screen : GoodIn wsL_isStep wsX4_screen := goodIn_r _ [184, 23, 11, 14, 185, 186, 9, 187, 168, 169, 170, 171, 172, 173, 174, 175, 176, 177, 178, 179, 180, 151, 152, 40, 153, 154, 155, 156, 157, 158, 42, 159, 135, 43, 302, 303, 304, 305, 306, 307, 308, 309, 310, 311, 312, 313, 326, 327, 328] (by decide +kernel) (by decide +kernel)
set_option maxRecDepth 20000 in
theorem gL_isStep_X4_screen : GoodIn wsL_isStep (wsV RL 45 RX4 yX4_screen wsX4_screen) := goodIn_app (goodIn_of _ (by decide +kernel)) ggL_isStep_X4_screen
set_option maxRecDepth 20000 in
theorem ggL_isStep_X4_fill : GoodIn wsL_isStep wsX4_fill := goodIn_r _ [191, 23, 11, 192, 44, 9, 45, 185, 186, 187, 168, 169, 170, 171, 172, 173, 174, 175, 176, 177, 178, 179, 180, 151, 152, 40, 153, 154, 155, 156, 157, 158, 42, 159, 135, 43, 193, 194, 195, 196, 197, 198, 199, 200, 201, 50, 202, 109, 110, 111, 302, 303, 304, 305, 306, 307, 308, 326, 327, 328, 309, 310, 311, 312, 313] (by decide +kernel) (by decide +kernel)
set_option maxRecDepth 20000 in
theorem gL_isStep_X4_fill : GoodIn wsL_isStep (wsV RL 48 RX4 yX4_fill wsX4_fill) := goodIn_app (goodIn_of _ (by decide +kernel)) ggL_isStep_X4_fill
set_option maxRecDepth 20000 in
theorem ggL_isStep_L_there : GoodIn wsL_isStep wsL_there := goodIn_r _ [205] (by decide +kernel) (by decide +kernel)
set_option maxRecDepth 20000 in
theorem gL_isStep_L_there : GoodIn wsL_isStep (va_wsS RL 52 yL_there wsL_there) := goodIn_app (goodIn_of _ (by decide +kernel)) ggL_isStep_L_there
set_option maxRecDepth 20000 in
theorem ggL_isStep_X4_pixel : GoodIn wsL_isStep wsX4_pixel := goodIn_r _ [209, 13, 11, 20, 19, 210, 15, 211, 16, 17, 212, 18, 192, 44, 9, 45, 25, 26, 27, 28, 29, 30, 31, 32, 33, 34, 35, 36, 37, 38, 39, 40, 41, 42, 43, 46, 47, 48, 49, 50, 51, 52, 53, 54, 55, 56, 57, 58, 59, 60, 61, 62, 63, 64, 65, 66, 67, 68, 69, 70, 71, 72, 73, 74, 75, 76, 77, 78, 79, 80, 81, 82, 83, 84, 85, 86, 87, 88, 89, 90, 91, 92, 93, 94, 95, 96, 97, 98, 99, 100, 101, 102, 103, 104, 105, 106, 107, 108, 109, 110, 111, 112, 113, 114, 115, 116, 213, 302, 303, 304, 305, 306, 307, 308, 309, 310, 311, 312, 313, 314, 315, 316, 317, 318, 319, 320, 321, 322, 323] (by decide +kernel) (by decide +kernel)
set_option maxRecDepth 20000 in
theorem gL_isStep_X4_pixel : GoodIn wsL_isStep (wsV RL 55 RX4 yX4_pixel wsX4_pixel) := goodIn_app (goodIn_of _ (by decide +kernel)) ggL_isStep_X4_pixel
set_option maxRecDepth 20000 in
theorem ggL_isStep_X4_mark : GoodIn wsL_isStep wsX4_mark := goodIn_r _ [217, 11, 218, 23, 192, 44, 9, 45, 168, 169, 170, 171, 172, 173, 174, 175, 176, 177, 178, 179, 180, 151, 152, 40, 153, 154, 155, 156, 157, 158, 42, 159, 135, 43, 131, 132, 133, 134, 302, 303, 304, 305, 306, 307, 308, 309, 310, 311, 312, 313, 326, 327, 328] (by decide +kernel) (by decide +kernel)
set_option maxRecDepth 20000 in
theorem gL_isStep_X4_mark : GoodIn wsL_isStep (wsV RL 58 RX4 yX4_mark wsX4_mark) := goodIn_app (goodIn_of _ (by decide +kernel)) ggL_isStep_X4_mark
set_option maxRecDepth 20000 in
theorem ggL_isStep_X4_keep : GoodIn wsL_isStep wsX4_keep := goodIn_r _ [222, 23, 11, 13, 18, 20, 218, 168, 169, 170, 171, 172, 173, 174, 175, 176, 177, 178, 179, 180, 151, 152, 40, 153, 154, 155, 156, 157, 158, 42, 159, 135, 43, 25, 26, 27, 28, 29, 30, 31, 32, 33, 34, 35, 36, 37, 38, 39, 41, 44, 9, 45, 46, 47, 48, 49, 50, 51, 52, 53, 54, 55, 56, 57, 58, 59, 60, 61, 62, 63, 64, 65, 66, 67, 68, 69, 70, 71, 72, 73, 74, 75, 76, 77, 78, 79, 80, 81, 82, 83, 84, 85, 86, 87, 88, 89, 90, 91, 92, 93, 94, 95, 96, 97, 98, 99, 100, 101, 102, 103, 104, 105, 106, 107, 108, 109, 110, 111, 112, 113, 114, 115, 116, 128, 129, 130, 302, 303, 304, 305, 306, 307, 308, 314, 315, 316, 317, 318, 319, 320, 321, 322, 323, 309, 310, 311, 312, 313, 326, 327, 328] (by decide +kernel) (by decide +kernel)
set_option maxRecDepth 20000 in
theorem gL_isStep_X4_keep : GoodIn wsL_isStep (wsV RL 62 RX4 yX4_keep wsX4_keep) := goodIn_app (goodIn_of _ (by decide +kernel)) ggL_isStep_X4_keep
set_option maxRecDepth 20000 in
theorem ggL_isStep_L_isRead : GoodIn wsL_isStep wsL_isRead := goodIn_r _ [225, 226, 227, 228, 229, 9, 230, 21, 22, 1, 2, 3, 4, 5, 6, 7, 8, 10, 11, 12, 13, 14, 15, 16, 17, 18, 19, 20, 23, 24, 25, 26, 27, 28, 29, 30, 31, 32, 33, 34, 35, 36, 37, 38, 39, 40, 41, 42, 43, 44, 45, 46, 47, 48, 49, 50, 51, 52, 53, 54, 55, 56, 57, 58, 59, 60, 61, 62, 63, 64, 65, 66, 67, 68, 69, 70, 71, 72, 73, 74, 75, 76, 77, 78, 79, 80, 81, 82, 83, 84, 85, 86, 87, 88, 89, 90, 91, 92, 93, 94, 95, 96, 97, 98, 99, 100, 101, 102, 103, 104, 105, 106, 107, 108, 109, 110, 111, 112, 113, 114, 115, 116, 117, 118, 119, 120, 121, 122, 123, 124, 125, 126, 127, 128, 129, 130, 131, 132, 133, 134, 135, 231, 232, 233, 234, 235, 236, 237, 238, 239, 240, 241, 242, 243, 244, 245, 246, 247, 248, 249, 250, 251, 252, 253, 254, 255, 256, 257, 258, 259, 260, 261, 262, 263, 168, 169, 170, 171, 172, 173, 174, 175, 176, 177, 178, 179, 180, 151, 152, 153, 154, 155, 156, 157, 158, 159, 193, 194, 195, 196, 264, 265, 266, 267, 302, 303, 304, 305, 306, 307, 308, 324, 325, 309, 310, 311, 312, 313, 314, 315, 316, 317, 318, 319, 320, 321, 322, 323, 326, 327, 328] (by decide +kernel) (by decide +kernel)
set_option maxRecDepth 20000 in
theorem gL_isStep_L_isRead : GoodIn wsL_isStep (va_wsS RL 65 yL_isRead wsL_isRead) := goodIn_app (goodIn_of _ (by decide +kernel)) ggL_isStep_L_isRead
set_option maxRecDepth 20000 in
theorem ggL_isStep_X4_undo : GoodIn wsL_isStep wsX4_undo := goodIn_r _ [271, 23, 24, 11, 272, 273, 274, 171, 275, 175, 173, 174, 176, 177, 178, 179, 180, 151, 152, 40, 153, 154, 155, 156, 157, 158, 42, 159, 135, 43, 302, 303, 304, 305, 306, 307, 308, 326, 327, 328, 309, 310, 311, 312, 313] (by decide +kernel) (by decide +kernel)
set_option maxRecDepth 20000 in
theorem gL_isStep_X4_undo : GoodIn wsL_isStep (wsV RL 69 RX4 yX4_undo wsX4_undo) := goodIn_app (goodIn_of _ (by decide +kernel)) ggL_isStep_X4_undo
set_option maxRecDepth 20000 in
theorem ggL_isStep_X4_save : GoodIn wsL_isStep wsX4_save := goodIn_r _ [279, 280, 281, 282, 40, 11, 283, 284, 9, 285, 286, 287, 288, 289, 290, 291, 292, 154, 42, 159, 293, 135, 43, 155, 156, 157, 158, 150, 151, 152, 153, 131, 132, 133, 134, 302, 303, 304, 305, 306, 307, 308, 309, 310, 311, 312, 313] (by decide +kernel) (by decide +kernel)
set_option maxRecDepth 20000 in
theorem gL_isStep_X4_save : GoodIn wsL_isStep (wsV RL 72 RX4 yX4_save wsX4_save) := goodIn_app (goodIn_of _ (by decide +kernel)) ggL_isStep_X4_save
set_option maxRecDepth 20000 in
theorem ggL_isStep_X4_restore : GoodIn wsL_isStep wsX4_restore := goodIn_r _ [297, 280, 23, 11, 283, 284, 9, 285, 168, 169, 170, 171, 172, 173, 174, 175, 176, 177, 178, 179, 180, 151, 152, 40, 153, 154, 155, 156, 157, 158, 42, 159, 135, 43, 150, 131, 132, 133, 134, 302, 303, 304, 305, 306, 307, 308, 326, 327, 328, 309, 310, 311, 312, 313] (by decide +kernel) (by decide +kernel)
set_option maxRecDepth 20000 in
theorem gL_isStep_X4_restore : GoodIn wsL_isStep (wsV RL 75 RX4 yX4_restore wsX4_restore) := goodIn_app (goodIn_of _ (by decide +kernel)) ggL_isStep_X4_restore
set_option maxRecDepth 20000 in
theorem ggL_isStep_X4_paint : GoodIn wsL_isStep wsX4_paint := goodIn_r _ [301, 23, 11, 192, 44, 9, 45, 185, 186, 187, 168, 169, 170, 171, 172, 173, 174, 175, 176, 177, 178, 179, 180, 151, 152, 40, 153, 154, 155, 156, 157, 158, 42, 159, 135, 43, 193, 194, 195, 196, 302, 303, 304, 305, 306, 307, 308, 326, 327, 328, 309, 310, 311, 312, 313] (by decide +kernel) (by decide +kernel)
set_option maxRecDepth 20000 in
theorem gL_isStep_X4_paint : GoodIn wsL_isStep (wsV RL 78 RX4 yX4_paint wsX4_paint) := goodIn_app (goodIn_of _ (by decide +kernel)) ggL_isStep_X4_paint
theorem dL_isStep_0 : decode cL_isStep 0 = .ok (.iload_n 2, 1) := by decide +kernel
theorem dL_isStep_1 : decode cL_isStep 1 = .ok (.iconst 4, 1) := by decide +kernel
theorem dL_isStep_2 : decode cL_isStep 2 = .ok (.ishr, 1) := by decide +kernel
theorem dL_isStep_3 : decode cL_isStep 3 = .ok (.istore 4, 2) := by decide +kernel
theorem dL_isStep_5 : decode cL_isStep 5 = .ok (.iload 4, 2) := by decide +kernel
theorem dL_isStep_7 : decode cL_isStep 7 = .ok (.bipush 48, 2) := by decide +kernel
theorem dL_isStep_9 : decode cL_isStep 9 = .ok (.invokestatic 19, 3) := by decide +kernel
theorem dL_isStep_12 : decode cL_isStep 12 = .ok (.istore 5, 2) := by decide +kernel
theorem dL_isStep_14 : decode cL_isStep 14 = .ok (.iload 4, 2) := by decide +kernel
theorem dL_isStep_16 : decode cL_isStep 16 = .ok (.bipush 6, 2) := by decide +kernel
theorem dL_isStep_18 : decode cL_isStep 18 = .ok (.ishr, 1) := by decide +kernel
theorem dL_isStep_19 : decode cL_isStep 19 = .ok (.iconst 4, 1) := by decide +kernel
theorem dL_isStep_20 : decode cL_isStep 20 = .ok (.invokestatic 19, 3) := by decide +kernel
theorem dL_isStep_23 : decode cL_isStep 23 = .ok (.ifCond .le 7, 3) := by decide +kernel
theorem dL_isStep_26 : decode cL_isStep 26 = .ok (.iconst 1, 1) := by decide +kernel
theorem dL_isStep_27 : decode cL_isStep 27 = .ok (.goto 4, 3) := by decide +kernel
theorem dL_isStep_30 : decode cL_isStep 30 = .ok (.iconst 0, 1) := by decide +kernel
theorem dL_isStep_31 : decode cL_isStep 31 = .ok (.istore 6, 2) := by decide +kernel
theorem dL_isStep_33 : decode cL_isStep 33 = .ok (.iload_n 3, 1) := by decide +kernel
theorem dL_isStep_34 : decode cL_isStep 34 = .ok (.iconst 3, 1) := by decide +kernel
theorem dL_isStep_35 : decode cL_isStep 35 = .ok (.invokestatic 19, 3) := by decide +kernel
theorem dL_isStep_38 : decode cL_isStep 38 = .ok (.ifCond .ne 30, 3) := by decide +kernel
theorem dL_isStep_41 : decode cL_isStep 41 = .ok (.aload_n 0, 1) := by decide +kernel
theorem dL_isStep_42 : decode cL_isStep 42 = .ok (.bipush 6, 2) := by decide +kernel
theorem dL_isStep_44 : decode cL_isStep 44 = .ok (.invokevirtual 25, 3) := by decide +kernel
theorem dL_isStep_47 : decode cL_isStep 47 = .ok (.iload_n 3, 1) := by decide +kernel
theorem dL_isStep_48 : decode cL_isStep 48 = .ok (.iconst 3, 1) := by decide +kernel
theorem dL_isStep_49 : decode cL_isStep 49 = .ok (.ishr, 1) := by decide +kernel
theorem dL_isStep_50 : decode cL_isStep 50 = .ok (.iconst 2, 1) := by decide +kernel
theorem dL_isStep_51 : decode cL_isStep 51 = .ok (.invokestatic 19, 3) := by decide +kernel
theorem dL_isStep_54 : decode cL_isStep 54 = .ok (.iconst 4, 1) := by decide +kernel
theorem dL_isStep_55 : decode cL_isStep 55 = .ok (.iload_n 3, 1) := by decide +kernel
theorem dL_isStep_56 : decode cL_isStep 56 = .ok (.iconst 5, 1) := by decide +kernel
theorem dL_isStep_57 : decode cL_isStep 57 = .ok (.ishr, 1) := by decide +kernel
theorem dL_isStep_58 : decode cL_isStep 58 = .ok (.iconst 3, 1) := by decide +kernel
theorem dL_isStep_59 : decode cL_isStep 59 = .ok (.invokestatic 19, 3) := by decide +kernel
theorem dL_isStep_62 : decode cL_isStep 62 = .ok (.imul, 1) := by decide +kernel
theorem dL_isStep_63 : decode cL_isStep 63 = .ok (.ishl, 1) := by decide +kernel
theorem dL_isStep_64 : decode cL_isStep 64 = .ok (.ixor, 1) := by decide +kernel
theorem dL_isStep_65 : decode cL_isStep 65 = .ok (.goto 12, 3) := by decide +kernel
theorem dL_isStep_68 : decode cL_isStep 68 = .ok (.iload_n 3, 1) := by decide +kernel
theorem dL_isStep_69 : decode cL_isStep 69 = .ok (.iconst 2, 1) := by decide +kernel
theorem dL_isStep_70 : decode cL_isStep 70 = .ok (.ishr, 1) := by decide +kernel
theorem dL_isStep_71 : decode cL_isStep 71 = .ok (.sipush 4096, 3) := by decide +kernel
theorem dL_isStep_74 : decode cL_isStep 74 = .ok (.invokestatic 19, 3) := by decide +kernel
theorem dL_isStep_77 : decode cL_isStep 77 = .ok (.istore 7, 2) := by decide +kernel
theorem dL_isStep_79 : decode cL_isStep 79 = .ok (.iload_n 2, 1) := by decide +kernel
theorem dL_isStep_80 : decode cL_isStep 80 = .ok (.bipush 15, 2) := by decide +kernel
theorem dL_isStep_82 : decode cL_isStep 82 = .ok (.invokestatic 19, 3) := by decide +kernel
theorem dL_isStep_85 : decode cL_isStep 85 = .ok (.tableswitch 820 0 12 #[67, 67, 250, 306, 306, 306, 496, 496, 606, 706, 706, 726, 752], 67) := by decide +kernel
theorem dL_isStep_152 : decode cL_isStep 152 = .ok (.iload 4, 2) := by decide +kernel
theorem dL_isStep_154 : decode cL_isStep 154 = .ok (.bipush 6, 2) := by decide +kernel
theorem dL_isStep_156 : decode cL_isStep 156 = .ok (.invokestatic 19, 3) := by decide +kernel
theorem dL_isStep_159 : decode cL_isStep 159 = .ok (.istore 8, 2) := by decide +kernel
theorem dL_isStep_161 : decode cL_isStep 161 = .ok (.iload 8, 2) := by decide +kernel
theorem dL_isStep_163 : decode cL_isStep 163 = .ok (.iconst 2, 1) := by decide +kernel
theorem dL_isStep_164 : decode cL_isStep 164 = .ok (.if_icmp .ge 12, 3) := by decide +kernel
theorem dL_isStep_167 : decode cL_isStep 167 = .ok (.iload_n 3, 1) := by decide +kernel
theorem dL_isStep_168 : decode cL_isStep 168 = .ok (.bipush 46, 2) := by decide +kernel
theorem dL_isStep_170 : decode cL_isStep 170 = .ok (.invokestatic 19, 3) := by decide +kernel
theorem dL_isStep_173 : decode cL_isStep 173 = .ok (.goto 23, 3) := by decide +kernel
theorem dL_isStep_176 : decode cL_isStep 176 = .ok (.iload 8, 2) := by decide +kernel
theorem dL_isStep_178 : decode cL_isStep 178 = .ok (.iconst 5, 1) := by decide +kernel
theorem dL_isStep_179 : decode cL_isStep 179 = .ok (.if_icmp .ge 12, 3) := by decide +kernel
theorem dL_isStep_182 : decode cL_isStep 182 = .ok (.iload_n 3, 1) := by decide +kernel
theorem dL_isStep_183 : decode cL_isStep 183 = .ok (.bipush 17, 2) := by decide +kernel
theorem dL_isStep_185 : decode cL_isStep 185 = .ok (.invokestatic 19, 3) := by decide +kernel
theorem dL_isStep_188 : decode cL_isStep 188 = .ok (.goto 8, 3) := by decide +kernel
theorem dL_isStep_191 : decode cL_isStep 191 = .ok (.iload_n 3, 1) := by decide +kernel
theorem dL_isStep_192 : decode cL_isStep 192 = .ok (.iconst 2, 1) := by decide +kernel
theorem dL_isStep_193 : decode cL_isStep 193 = .ok (.invokestatic 19, 3) := by decide +kernel
theorem dL_isStep_196 : decode cL_isStep 196 = .ok (.istore 9, 2) := by decide +kernel
theorem dL_isStep_198 : decode cL_isStep 198 = .ok (.aload_n 0, 1) := by decide +kernel
theorem dL_isStep_199 : decode cL_isStep 199 = .ok (.iload 8, 2) := by decide +kernel
theorem dL_isStep_201 : decode cL_isStep 201 = .ok (.invokevirtual 25, 3) := by decide +kernel
theorem dL_isStep_204 : decode cL_isStep 204 = .ok (.istore 10, 2) := by decide +kernel
theorem dL_isStep_206 : decode cL_isStep 206 = .ok (.iload 8, 2) := by decide +kernel
theorem dL_isStep_208 : decode cL_isStep 208 = .ok (.ifCond .ne 21, 3) := by decide +kernel
theorem dL_isStep_211 : decode cL_isStep 211 = .ok (.iload 9, 2) := by decide +kernel
theorem dL_isStep_213 : decode cL_isStep 213 = .ok (.aload_n 0, 1) := by decide +kernel
theorem dL_isStep_214 : decode cL_isStep 214 = .ok (.iconst 1, 1) := by decide +kernel
theorem dL_isStep_215 : decode cL_isStep 215 = .ok (.invokevirtual 25, 3) := by decide +kernel
theorem dL_isStep_218 : decode cL_isStep 218 = .ok (.if_icmp .ge 7, 3) := by decide +kernel
theorem dL_isStep_221 : decode cL_isStep 221 = .ok (.iconst 1, 1) := by decide +kernel
theorem dL_isStep_222 : decode cL_isStep 222 = .ok (.goto 28, 3) := by decide +kernel
theorem dL_isStep_225 : decode cL_isStep 225 = .ok (.iconst 0, 1) := by decide +kernel
theorem dL_isStep_226 : decode cL_isStep 226 = .ok (.goto 24, 3) := by decide +kernel
theorem dL_isStep_229 : decode cL_isStep 229 = .ok (.iload 8, 2) := by decide +kernel
theorem dL_isStep_231 : decode cL_isStep 231 = .ok (.iconst 1, 1) := by decide +kernel
theorem dL_isStep_232 : decode cL_isStep 232 = .ok (.if_icmp .ne 13, 3) := by decide +kernel
theorem dL_isStep_235 : decode cL_isStep 235 = .ok (.iload 9, 2) := by decide +kernel
theorem dL_isStep_237 : decode cL_isStep 237 = .ok (.aload_n 0, 1) := by decide +kernel
theorem dL_isStep_238 : decode cL_isStep 238 = .ok (.iconst 0, 1) := by decide +kernel
theorem dL_isStep_239 : decode cL_isStep 239 = .ok (.invokevirtual 25, 3) := by decide +kernel
theorem dL_isStep_242 : decode cL_isStep 242 = .ok (.if_icmp .le 7, 3) := by decide +kernel
theorem dL_isStep_245 : decode cL_isStep 245 = .ok (.iconst 1, 1) := by decide +kernel
theorem dL_isStep_246 : decode cL_isStep 246 = .ok (.goto 4, 3) := by decide +kernel
theorem dL_isStep_249 : decode cL_isStep 249 = .ok (.iconst 0, 1) := by decide +kernel
theorem dL_isStep_250 : decode cL_isStep 250 = .ok (.istore 11, 2) := by decide +kernel
theorem dL_isStep_252 : decode cL_isStep 252 = .ok (.aload_n 0, 1) := by decide +kernel
theorem dL_isStep_253 : decode cL_isStep 253 = .ok (.iload 8, 2) := by decide +kernel
theorem dL_isStep_255 : decode cL_isStep 255 = .ok (.iload 9, 2) := by decide +kernel
theorem dL_isStep_257 : decode cL_isStep 257 = .ok (.invokevirtual 39, 3) := by decide +kernel
theorem dL_isStep_260 : decode cL_isStep 260 = .ok (.istore 12, 2) := by decide +kernel
theorem dL_isStep_262 : decode cL_isStep 262 = .ok (.aload_n 0, 1) := by decide +kernel
theorem dL_isStep_263 : decode cL_isStep 263 = .ok (.iload 8, 2) := by decide +kernel
theorem dL_isStep_265 : decode cL_isStep 265 = .ok (.iload 9, 2) := by decide +kernel
theorem dL_isStep_267 : decode cL_isStep 267 = .ok (.invokevirtual 42, 3) := by decide +kernel
theorem dL_isStep_270 : decode cL_isStep 270 = .ok (.istore 13, 2) := by decide +kernel
theorem dL_isStep_272 : decode cL_isStep 272 = .ok (.iload 13, 2) := by decide +kernel
theorem dL_isStep_274 : decode cL_isStep 274 = .ok (.aload_n 1, 1) := by decide +kernel
theorem dL_isStep_275 : decode cL_isStep 275 = .ok (.iload 8, 2) := by decide +kernel
theorem dL_isStep_277 : decode cL_isStep 277 = .ok (.iload 9, 2) := by decide +kernel
theorem dL_isStep_279 : decode cL_isStep 279 = .ok (.invokevirtual 42, 3) := by decide +kernel
theorem dL_isStep_282 : decode cL_isStep 282 = .ok (.if_icmp .ne 51, 3) := by decide +kernel
theorem dL_isStep_285 : decode cL_isStep 285 = .ok (.iload 13, 2) := by decide +kernel
theorem dL_isStep_287 : decode cL_isStep 287 = .ok (.iload 11, 2) := by decide +kernel
theorem dL_isStep_289 : decode cL_isStep 289 = .ok (.ifCond .eq 8, 3) := by decide +kernel
theorem dL_isStep_292 : decode cL_isStep 292 = .ok (.iload 10, 2) := by decide +kernel
theorem dL_isStep_294 : decode cL_isStep 294 = .ok (.goto 5, 3) := by decide +kernel
theorem dL_isStep_297 : decode cL_isStep 297 = .ok (.bipush (-5), 2) := by decide +kernel
theorem dL_isStep_299 : decode cL_isStep 299 = .ok (.if_icmp .ne 34, 3) := by decide +kernel
theorem dL_isStep_302 : decode cL_isStep 302 = .ok (.iload 11, 2) := by decide +kernel
theorem dL_isStep_304 : decode cL_isStep 304 = .ok (.ifCond .eq 18, 3) := by decide +kernel
theorem dL_isStep_307 : decode cL_isStep 307 = .ok (.iload 12, 2) := by decide +kernel
theorem dL_isStep_309 : decode cL_isStep 309 = .ok (.ifCond .lt 24, 3) := by decide +kernel
theorem dL_isStep_312 : decode cL_isStep 312 = .ok (.iload 12, 2) := by decide +kernel
theorem dL_isStep_314 : decode cL_isStep 314 = .ok (.bipush 48, 2) := by decide +kernel
theorem dL_isStep_316 : decode cL_isStep 316 = .ok (.if_icmp .gt 17, 3) := by decide +kernel
theorem dL_isStep_319 : decode cL_isStep 319 = .ok (.goto 10, 3) := by decide +kernel
theorem dL_isStep_322 : decode cL_isStep 322 = .ok (.iload 12, 2) := by decide +kernel
theorem dL_isStep_324 : decode cL_isStep 324 = .ok (.iload 13, 2) := by decide +kernel
theorem dL_isStep_326 : decode cL_isStep 326 = .ok (.if_icmp .ne 7, 3) := by decide +kernel
theorem dL_isStep_329 : decode cL_isStep 329 = .ok (.iconst 1, 1) := by decide +kernel
theorem dL_isStep_330 : decode cL_isStep 330 = .ok (.goto 4, 3) := by decide +kernel
theorem dL_isStep_333 : decode cL_isStep 333 = .ok (.iconst 0, 1) := by decide +kernel
theorem dL_isStep_334 : decode cL_isStep 334 = .ok (.ireturn, 1) := by decide +kernel
theorem dL_isStep_335 : decode cL_isStep 335 = .ok (.aload_n 0, 1) := by decide +kernel
theorem dL_isStep_336 : decode cL_isStep 336 = .ok (.bipush 6, 2) := by decide +kernel
theorem dL_isStep_338 : decode cL_isStep 338 = .ok (.invokevirtual 25, 3) := by decide +kernel
theorem dL_isStep_341 : decode cL_isStep 341 = .ok (.istore 8, 2) := by decide +kernel
theorem dL_isStep_343 : decode cL_isStep 343 = .ok (.iload_n 3, 1) := by decide +kernel
theorem dL_isStep_344 : decode cL_isStep 344 = .ok (.sipush 4096, 3) := by decide +kernel
theorem dL_isStep_347 : decode cL_isStep 347 = .ok (.invokestatic 19, 3) := by decide +kernel
theorem dL_isStep_350 : decode cL_isStep 350 = .ok (.istore 9, 2) := by decide +kernel
theorem dL_isStep_352 : decode cL_isStep 352 = .ok (.aload_n 0, 1) := by decide +kernel
theorem dL_isStep_353 : decode cL_isStep 353 = .ok (.iload 9, 2) := by decide +kernel
theorem dL_isStep_355 : decode cL_isStep 355 = .ok (.invokevirtual 45, 3) := by decide +kernel
theorem dL_isStep_358 : decode cL_isStep 358 = .ok (.iload 8, 2) := by decide +kernel
theorem dL_isStep_360 : decode cL_isStep 360 = .ok (.if_icmp .ne 29, 3) := by decide +kernel
theorem dL_isStep_363 : decode cL_isStep 363 = .ok (.aload_n 1, 1) := by decide +kernel
theorem dL_isStep_364 : decode cL_isStep 364 = .ok (.iload 9, 2) := by decide +kernel
theorem dL_isStep_366 : decode cL_isStep 366 = .ok (.invokevirtual 45, 3) := by decide +kernel
theorem dL_isStep_369 : decode cL_isStep 369 = .ok (.iload 8, 2) := by decide +kernel
theorem dL_isStep_371 : decode cL_isStep 371 = .ok (.if_icmp .ne 18, 3) := by decide +kernel
theorem dL_isStep_374 : decode cL_isStep 374 = .ok (.aload_n 0, 1) := by decide +kernel
theorem dL_isStep_375 : decode cL_isStep 375 = .ok (.bipush 6, 2) := by decide +kernel
theorem dL_isStep_377 : decode cL_isStep 377 = .ok (.invokevirtual 25, 3) := by decide +kernel
theorem dL_isStep_380 : decode cL_isStep 380 = .ok (.iload 9, 2) := by decide +kernel
theorem dL_isStep_382 : decode cL_isStep 382 = .ok (.if_icmp .ne 7, 3) := by decide +kernel
theorem dL_isStep_385 : decode cL_isStep 385 = .ok (.iconst 1, 1) := by decide +kernel
theorem dL_isStep_386 : decode cL_isStep 386 = .ok (.goto 4, 3) := by decide +kernel
theorem dL_isStep_389 : decode cL_isStep 389 = .ok (.iconst 0, 1) := by decide +kernel
theorem dL_isStep_390 : decode cL_isStep 390 = .ok (.ireturn, 1) := by decide +kernel
theorem dL_isStep_391 : decode cL_isStep 391 = .ok (.iload_n 3, 1) := by decide +kernel
theorem dL_isStep_392 : decode cL_isStep 392 = .ok (.bipush 7, 2) := by decide +kernel
theorem dL_isStep_394 : decode cL_isStep 394 = .ok (.ishr, 1) := by decide +kernel
theorem dL_isStep_395 : decode cL_isStep 395 = .ok (.bipush 48, 2) := by decide +kernel
theorem dL_isStep_397 : decode cL_isStep 397 = .ok (.invokestatic 19, 3) := by decide +kernel
theorem dL_isStep_400 : decode cL_isStep 400 = .ok (.istore 8, 2) := by decide +kernel
theorem dL_isStep_402 : decode cL_isStep 402 = .ok (.iload 5, 2) := by decide +kernel
theorem dL_isStep_404 : decode cL_isStep 404 = .ok (.bipush 8, 2) := by decide +kernel
theorem dL_isStep_406 : decode cL_isStep 406 = .ok (.irem, 1) := by decide +kernel
theorem dL_isStep_407 : decode cL_isStep 407 = .ok (.iload 8, 2) := by decide +kernel
theorem dL_isStep_409 : decode cL_isStep 409 = .ok (.bipush 8, 2) := by decide +kernel
theorem dL_isStep_411 : decode cL_isStep 411 = .ok (.irem, 1) := by decide +kernel
theorem dL_isStep_412 : decode cL_isStep 412 = .ok (.if_icmp .ge 17, 3) := by decide +kernel
theorem dL_isStep_415 : decode cL_isStep 415 = .ok (.iload 8, 2) := by decide +kernel
theorem dL_isStep_417 : decode cL_isStep 417 = .ok (.bipush 8, 2) := by decide +kernel
theorem dL_isStep_419 : decode cL_isStep 419 = .ok (.irem, 1) := by decide +kernel
theorem dL_isStep_420 : decode cL_isStep 420 = .ok (.iload 5, 2) := by decide +kernel
theorem dL_isStep_422 : decode cL_isStep 422 = .ok (.bipush 8, 2) := by decide +kernel
theorem dL_isStep_424 : decode cL_isStep 424 = .ok (.irem, 1) := by decide +kernel
theorem dL_isStep_425 : decode cL_isStep 425 = .ok (.isub, 1) := by decide +kernel
theorem dL_isStep_426 : decode cL_isStep 426 = .ok (.goto 14, 3) := by decide +kernel
theorem dL_isStep_429 : decode cL_isStep 429 = .ok (.iload 5, 2) := by decide +kernel
theorem dL_isStep_431 : decode cL_isStep 431 = .ok (.bipush 8, 2) := by decide +kernel
theorem dL_isStep_433 : decode cL_isStep 433 = .ok (.irem, 1) := by decide +kernel
theorem dL_isStep_434 : decode cL_isStep 434 = .ok (.iload 8, 2) := by decide +kernel
theorem dL_isStep_436 : decode cL_isStep 436 = .ok (.bipush 8, 2) := by decide +kernel
theorem dL_isStep_438 : decode cL_isStep 438 = .ok (.irem, 1) := by decide +kernel
theorem dL_isStep_439 : decode cL_isStep 439 = .ok (.isub, 1) := by decide +kernel
theorem dL_isStep_440 : decode cL_isStep 440 = .ok (.istore 9, 2) := by decide +kernel
theorem dL_isStep_442 : decode cL_isStep 442 = .ok (.iload 5, 2) := by decide +kernel
theorem dL_isStep_444 : decode cL_isStep 444 = .ok (.bipush 8, 2) := by decide +kernel
theorem dL_isStep_446 : decode cL_isStep 446 = .ok (.idiv, 1) := by decide +kernel
theorem dL_isStep_447 : decode cL_isStep 447 = .ok (.iload 8, 2) := by decide +kernel
theorem dL_isStep_449 : decode cL_isStep 449 = .ok (.bipush 8, 2) := by decide +kernel
theorem dL_isStep_451 : decode cL_isStep 451 = .ok (.idiv, 1) := by decide +kernel
theorem dL_isStep_452 : decode cL_isStep 452 = .ok (.if_icmp .ge 17, 3) := by decide +kernel
theorem dL_isStep_455 : decode cL_isStep 455 = .ok (.iload 8, 2) := by decide +kernel
theorem dL_isStep_457 : decode cL_isStep 457 = .ok (.bipush 8, 2) := by decide +kernel
theorem dL_isStep_459 : decode cL_isStep 459 = .ok (.idiv, 1) := by decide +kernel
theorem dL_isStep_460 : decode cL_isStep 460 = .ok (.iload 5, 2) := by decide +kernel
theorem dL_isStep_462 : decode cL_isStep 462 = .ok (.bipush 8, 2) := by decide +kernel
theorem dL_isStep_464 : decode cL_isStep 464 = .ok (.idiv, 1) := by decide +kernel
theorem dL_isStep_465 : decode cL_isStep 465 = .ok (.isub, 1) := by decide +kernel
theorem dL_isStep_466 : decode cL_isStep 466 = .ok (.goto 14, 3) := by decide +kernel
theorem dL_isStep_469 : decode cL_isStep 469 = .ok (.iload 5, 2) := by decide +kernel
theorem dL_isStep_471 : decode cL_isStep 471 = .ok (.bipush 8, 2) := by decide +kernel
theorem dL_isStep_473 : decode cL_isStep 473 = .ok (.idiv, 1) := by decide +kernel
theorem dL_isStep_474 : decode cL_isStep 474 = .ok (.iload 8, 2) := by decide +kernel
theorem dL_isStep_476 : decode cL_isStep 476 = .ok (.bipush 8, 2) := by decide +kernel
theorem dL_isStep_478 : decode cL_isStep 478 = .ok (.idiv, 1) := by decide +kernel
theorem dL_isStep_479 : decode cL_isStep 479 = .ok (.isub, 1) := by decide +kernel
theorem dL_isStep_480 : decode cL_isStep 480 = .ok (.istore 10, 2) := by decide +kernel
theorem dL_isStep_482 : decode cL_isStep 482 = .ok (.aload_n 0, 1) := by decide +kernel
theorem dL_isStep_483 : decode cL_isStep 483 = .ok (.iload 6, 2) := by decide +kernel
theorem dL_isStep_485 : decode cL_isStep 485 = .ok (.iload 5, 2) := by decide +kernel
theorem dL_isStep_487 : decode cL_isStep 487 = .ok (.iload 8, 2) := by decide +kernel
theorem dL_isStep_489 : decode cL_isStep 489 = .ok (.iload 7, 2) := by decide +kernel
theorem dL_isStep_491 : decode cL_isStep 491 = .ok (.invokevirtual 48, 3) := by decide +kernel
theorem dL_isStep_494 : decode cL_isStep 494 = .ok (.istore 11, 2) := by decide +kernel
theorem dL_isStep_496 : decode cL_isStep 496 = .ok (.iload 11, 2) := by decide +kernel
theorem dL_isStep_498 : decode cL_isStep 498 = .ok (.aload_n 1, 1) := by decide +kernel
theorem dL_isStep_499 : decode cL_isStep 499 = .ok (.iload 6, 2) := by decide +kernel
theorem dL_isStep_501 : decode cL_isStep 501 = .ok (.iload 8, 2) := by decide +kernel
theorem dL_isStep_503 : decode cL_isStep 503 = .ok (.invokestatic 52, 3) := by decide +kernel
theorem dL_isStep_506 : decode cL_isStep 506 = .ok (.iload 5, 2) := by decide +kernel
theorem dL_isStep_508 : decode cL_isStep 508 = .ok (.invokestatic 52, 3) := by decide +kernel
theorem dL_isStep_511 : decode cL_isStep 511 = .ok (.iload 7, 2) := by decide +kernel
theorem dL_isStep_513 : decode cL_isStep 513 = .ok (.invokevirtual 48, 3) := by decide +kernel
theorem dL_isStep_516 : decode cL_isStep 516 = .ok (.if_icmp .ne 63, 3) := by decide +kernel
theorem dL_isStep_519 : decode cL_isStep 519 = .ok (.iload 11, 2) := by decide +kernel
theorem dL_isStep_521 : decode cL_isStep 521 = .ok (.iload 9, 2) := by decide +kernel
theorem dL_isStep_523 : decode cL_isStep 523 = .ok (.iconst 1, 1) := by decide +kernel
theorem dL_isStep_524 : decode cL_isStep 524 = .ok (.iadd, 1) := by decide +kernel
theorem dL_isStep_525 : decode cL_isStep 525 = .ok (.iload 10, 2) := by decide +kernel
theorem dL_isStep_527 : decode cL_isStep 527 = .ok (.iconst 1, 1) := by decide +kernel
theorem dL_isStep_528 : decode cL_isStep 528 = .ok (.iadd, 1) := by decide +kernel
theorem dL_isStep_529 : decode cL_isStep 529 = .ok (.imul, 1) := by decide +kernel
theorem dL_isStep_530 : decode cL_isStep 530 = .ok (.if_icmp .ne 49, 3) := by decide +kernel
theorem dL_isStep_533 : decode cL_isStep 533 = .ok (.aload_n 0, 1) := by decide +kernel
theorem dL_isStep_534 : decode cL_isStep 534 = .ok (.iload 5, 2) := by decide +kernel
theorem dL_isStep_536 : decode cL_isStep 536 = .ok (.iload 6, 2) := by decide +kernel
theorem dL_isStep_538 : decode cL_isStep 538 = .ok (.ifCond .eq 7, 3) := by decide +kernel
theorem dL_isStep_541 : decode cL_isStep 541 = .ok (.iconst 0, 1) := by decide +kernel
theorem dL_isStep_542 : decode cL_isStep 542 = .ok (.goto 4, 3) := by decide +kernel
theorem dL_isStep_545 : decode cL_isStep 545 = .ok (.iconst 1, 1) := by decide +kernel
theorem dL_isStep_546 : decode cL_isStep 546 = .ok (.invokevirtual 55, 3) := by decide +kernel
theorem dL_isStep_549 : decode cL_isStep 549 = .ok (.iload 7, 2) := by decide +kernel
theorem dL_isStep_551 : decode cL_isStep 551 = .ok (.if_icmp .ne 28, 3) := by decide +kernel
theorem dL_isStep_554 : decode cL_isStep 554 = .ok (.aload_n 0, 1) := by decide +kernel
theorem dL_isStep_555 : decode cL_isStep 555 = .ok (.iload 8, 2) := by decide +kernel
theorem dL_isStep_557 : decode cL_isStep 557 = .ok (.iload 6, 2) := by decide +kernel
theorem dL_isStep_559 : decode cL_isStep 559 = .ok (.ifCond .eq 7, 3) := by decide +kernel
theorem dL_isStep_562 : decode cL_isStep 562 = .ok (.iconst 0, 1) := by decide +kernel
theorem dL_isStep_563 : decode cL_isStep 563 = .ok (.goto 4, 3) := by decide +kernel
theorem dL_isStep_566 : decode cL_isStep 566 = .ok (.iconst 1, 1) := by decide +kernel
theorem dL_isStep_567 : decode cL_isStep 567 = .ok (.invokevirtual 55, 3) := by decide +kernel
theorem dL_isStep_570 : decode cL_isStep 570 = .ok (.iload 7, 2) := by decide +kernel
theorem dL_isStep_572 : decode cL_isStep 572 = .ok (.if_icmp .ne 7, 3) := by decide +kernel
theorem dL_isStep_575 : decode cL_isStep 575 = .ok (.iconst 1, 1) := by decide +kernel
theorem dL_isStep_576 : decode cL_isStep 576 = .ok (.goto 4, 3) := by decide +kernel
theorem dL_isStep_579 : decode cL_isStep 579 = .ok (.iconst 0, 1) := by decide +kernel
theorem dL_isStep_580 : decode cL_isStep 580 = .ok (.ireturn, 1) := by decide +kernel
theorem dL_isStep_581 : decode cL_isStep 581 = .ok (.aload_n 0, 1) := by decide +kernel
theorem dL_isStep_582 : decode cL_isStep 582 = .ok (.iload 5, 2) := by decide +kernel
theorem dL_isStep_584 : decode cL_isStep 584 = .ok (.iconst 5, 1) := by decide +kernel
theorem dL_isStep_585 : decode cL_isStep 585 = .ok (.invokevirtual 55, 3) := by decide +kernel
theorem dL_isStep_588 : decode cL_isStep 588 = .ok (.iconst 4, 1) := by decide +kernel
theorem dL_isStep_589 : decode cL_isStep 589 = .ok (.if_icmp .eq 7, 3) := by decide +kernel
theorem dL_isStep_592 : decode cL_isStep 592 = .ok (.iconst 1, 1) := by decide +kernel
theorem dL_isStep_593 : decode cL_isStep 593 = .ok (.goto 4, 3) := by decide +kernel
theorem dL_isStep_596 : decode cL_isStep 596 = .ok (.iconst 0, 1) := by decide +kernel
theorem dL_isStep_597 : decode cL_isStep 597 = .ok (.istore 8, 2) := by decide +kernel
theorem dL_isStep_599 : decode cL_isStep 599 = .ok (.aload_n 0, 1) := by decide +kernel
theorem dL_isStep_600 : decode cL_isStep 600 = .ok (.bipush 18, 2) := by decide +kernel
theorem dL_isStep_602 : decode cL_isStep 602 = .ok (.invokevirtual 25, 3) := by decide +kernel
theorem dL_isStep_605 : decode cL_isStep 605 = .ok (.istore 9, 2) := by decide +kernel
theorem dL_isStep_607 : decode cL_isStep 607 = .ok (.aload_n 0, 1) := by decide +kernel
theorem dL_isStep_608 : decode cL_isStep 608 = .ok (.iload 5, 2) := by decide +kernel
theorem dL_isStep_610 : decode cL_isStep 610 = .ok (.iload 8, 2) := by decide +kernel
theorem dL_isStep_612 : decode cL_isStep 612 = .ok (.invokevirtual 58, 3) := by decide +kernel
theorem dL_isStep_615 : decode cL_isStep 615 = .ok (.iload 9, 2) := by decide +kernel
theorem dL_isStep_617 : decode cL_isStep 617 = .ok (.iload 8, 2) := by decide +kernel
theorem dL_isStep_619 : decode cL_isStep 619 = .ok (.ifCond .eq 7, 3) := by decide +kernel
theorem dL_isStep_622 : decode cL_isStep 622 = .ok (.iconst 1, 1) := by decide +kernel
theorem dL_isStep_623 : decode cL_isStep 623 = .ok (.goto 4, 3) := by decide +kernel
theorem dL_isStep_626 : decode cL_isStep 626 = .ok (.iconst (-1), 1) := by decide +kernel
theorem dL_isStep_627 : decode cL_isStep 627 = .ok (.iadd, 1) := by decide +kernel
theorem dL_isStep_628 : decode cL_isStep 628 = .ok (.if_icmp .ne 61, 3) := by decide +kernel
theorem dL_isStep_631 : decode cL_isStep 631 = .ok (.aload_n 1, 1) := by decide +kernel
theorem dL_isStep_632 : decode cL_isStep 632 = .ok (.iload 5, 2) := by decide +kernel
theorem dL_isStep_634 : decode cL_isStep 634 = .ok (.invokestatic 52, 3) := by decide +kernel
theorem dL_isStep_637 : decode cL_isStep 637 = .ok (.iload 8, 2) := by decide +kernel
theorem dL_isStep_639 : decode cL_isStep 639 = .ok (.invokevirtual 58, 3) := by decide +kernel
theorem dL_isStep_642 : decode cL_isStep 642 = .ok (.aload_n 0, 1) := by decide +kernel
theorem dL_isStep_643 : decode cL_isStep 643 = .ok (.bipush 18, 2) := by decide +kernel
theorem dL_isStep_645 : decode cL_isStep 645 = .ok (.invokevirtual 25, 3) := by decide +kernel
theorem dL_isStep_648 : decode cL_isStep 648 = .ok (.if_icmp .ne 41, 3) := by decide +kernel
theorem dL_isStep_651 : decode cL_isStep 651 = .ok (.aload_n 0, 1) := by decide +kernel
theorem dL_isStep_652 : decode cL_isStep 652 = .ok (.iload 5, 2) := by decide +kernel
theorem dL_isStep_654 : decode cL_isStep 654 = .ok (.iload 8, 2) := by decide +kernel
theorem dL_isStep_656 : decode cL_isStep 656 = .ok (.invokevirtual 58, 3) := by decide +kernel
theorem dL_isStep_659 : decode cL_isStep 659 = .ok (.bipush (-5), 2) := by decide +kernel
theorem dL_isStep_661 : decode cL_isStep 661 = .ok (.if_icmp .ne 28, 3) := by decide +kernel
theorem dL_isStep_664 : decode cL_isStep 664 = .ok (.aload_n 0, 1) := by decide +kernel
theorem dL_isStep_665 : decode cL_isStep 665 = .ok (.iload 5, 2) := by decide +kernel
theorem dL_isStep_667 : decode cL_isStep 667 = .ok (.iconst 5, 1) := by decide +kernel
theorem dL_isStep_668 : decode cL_isStep 668 = .ok (.invokevirtual 55, 3) := by decide +kernel
theorem dL_isStep_671 : decode cL_isStep 671 = .ok (.iconst 4, 1) := by decide +kernel
theorem dL_isStep_672 : decode cL_isStep 672 = .ok (.if_icmp .ne 7, 3) := by decide +kernel
theorem dL_isStep_675 : decode cL_isStep 675 = .ok (.iconst 1, 1) := by decide +kernel
theorem dL_isStep_676 : decode cL_isStep 676 = .ok (.goto 4, 3) := by decide +kernel
theorem dL_isStep_679 : decode cL_isStep 679 = .ok (.iconst 0, 1) := by decide +kernel
theorem dL_isStep_680 : decode cL_isStep 680 = .ok (.iload 8, 2) := by decide +kernel
theorem dL_isStep_682 : decode cL_isStep 682 = .ok (.if_icmp .ne 7, 3) := by decide +kernel
theorem dL_isStep_685 : decode cL_isStep 685 = .ok (.iconst 1, 1) := by decide +kernel
theorem dL_isStep_686 : decode cL_isStep 686 = .ok (.goto 4, 3) := by decide +kernel
theorem dL_isStep_689 : decode cL_isStep 689 = .ok (.iconst 0, 1) := by decide +kernel
theorem dL_isStep_690 : decode cL_isStep 690 = .ok (.ireturn, 1) := by decide +kernel
theorem dL_isStep_691 : decode cL_isStep 691 = .ok (.iload_n 3, 1) := by decide +kernel
theorem dL_isStep_692 : decode cL_isStep 692 = .ok (.iconst 4, 1) := by decide +kernel
theorem dL_isStep_693 : decode cL_isStep 693 = .ok (.invokestatic 19, 3) := by decide +kernel
theorem dL_isStep_696 : decode cL_isStep 696 = .ok (.ifCond .le 5, 3) := by decide +kernel
theorem dL_isStep_699 : decode cL_isStep 699 = .ok (.iconst 1, 1) := by decide +kernel
theorem dL_isStep_700 : decode cL_isStep 700 = .ok (.ireturn, 1) := by decide +kernel
theorem dL_isStep_701 : decode cL_isStep 701 = .ok (.aload_n 0, 1) := by decide +kernel
theorem dL_isStep_702 : decode cL_isStep 702 = .ok (.iconst 0, 1) := by decide +kernel
theorem dL_isStep_703 : decode cL_isStep 703 = .ok (.bipush 9, 2) := by decide +kernel
theorem dL_isStep_705 : decode cL_isStep 705 = .ok (.invokevirtual 55, 3) := by decide +kernel
theorem dL_isStep_708 : decode cL_isStep 708 = .ok (.istore 8, 2) := by decide +kernel
theorem dL_isStep_710 : decode cL_isStep 710 = .ok (.aload_n 0, 1) := by decide +kernel
theorem dL_isStep_711 : decode cL_isStep 711 = .ok (.bipush 47, 2) := by decide +kernel
theorem dL_isStep_713 : decode cL_isStep 713 = .ok (.bipush 9, 2) := by decide +kernel
theorem dL_isStep_715 : decode cL_isStep 715 = .ok (.invokevirtual 55, 3) := by decide +kernel
theorem dL_isStep_718 : decode cL_isStep 718 = .ok (.istore 9, 2) := by decide +kernel
theorem dL_isStep_720 : decode cL_isStep 720 = .ok (.aload_n 0, 1) := by decide +kernel
theorem dL_isStep_721 : decode cL_isStep 721 = .ok (.bipush 17, 2) := by decide +kernel
theorem dL_isStep_723 : decode cL_isStep 723 = .ok (.invokevirtual 25, 3) := by decide +kernel
theorem dL_isStep_726 : decode cL_isStep 726 = .ok (.istore 10, 2) := by decide +kernel
theorem dL_isStep_728 : decode cL_isStep 728 = .ok (.aload_n 0, 1) := by decide +kernel
theorem dL_isStep_729 : decode cL_isStep 729 = .ok (.invokevirtual 62, 3) := by decide +kernel
theorem dL_isStep_732 : decode cL_isStep 732 = .ok (.istore 11, 2) := by decide +kernel
theorem dL_isStep_734 : decode cL_isStep 734 = .ok (.iload 11, 2) := by decide +kernel
theorem dL_isStep_736 : decode cL_isStep 736 = .ok (.aload_n 1, 1) := by decide +kernel
theorem dL_isStep_737 : decode cL_isStep 737 = .ok (.invokevirtual 62, 3) := by decide +kernel
theorem dL_isStep_740 : decode cL_isStep 740 = .ok (.if_icmp .ne 49, 3) := by decide +kernel
theorem dL_isStep_743 : decode cL_isStep 743 = .ok (.iload 11, 2) := by decide +kernel
theorem dL_isStep_745 : decode cL_isStep 745 = .ok (.bipush 48, 2) := by decide +kernel
theorem dL_isStep_747 : decode cL_isStep 747 = .ok (.iload 10, 2) := by decide +kernel
theorem dL_isStep_749 : decode cL_isStep 749 = .ok (.isub, 1) := by decide +kernel
theorem dL_isStep_750 : decode cL_isStep 750 = .ok (.if_icmp .ne 39, 3) := by decide +kernel
theorem dL_isStep_753 : decode cL_isStep 753 = .ok (.aload_n 0, 1) := by decide +kernel
theorem dL_isStep_754 : decode cL_isStep 754 = .ok (.bipush 18, 2) := by decide +kernel
theorem dL_isStep_756 : decode cL_isStep 756 = .ok (.invokevirtual 25, 3) := by decide +kernel
theorem dL_isStep_759 : decode cL_isStep 759 = .ok (.ifCond .ne 30, 3) := by decide +kernel
theorem dL_isStep_762 : decode cL_isStep 762 = .ok (.aload_n 0, 1) := by decide +kernel
theorem dL_isStep_763 : decode cL_isStep 763 = .ok (.iconst 0, 1) := by decide +kernel
theorem dL_isStep_764 : decode cL_isStep 764 = .ok (.iconst 0, 1) := by decide +kernel
theorem dL_isStep_765 : decode cL_isStep 765 = .ok (.invokevirtual 55, 3) := by decide +kernel
theorem dL_isStep_768 : decode cL_isStep 768 = .ok (.iload 8, 2) := by decide +kernel
theorem dL_isStep_770 : decode cL_isStep 770 = .ok (.if_icmp .ne 19, 3) := by decide +kernel
theorem dL_isStep_773 : decode cL_isStep 773 = .ok (.aload_n 0, 1) := by decide +kernel
theorem dL_isStep_774 : decode cL_isStep 774 = .ok (.bipush 47, 2) := by decide +kernel
theorem dL_isStep_776 : decode cL_isStep 776 = .ok (.iconst 0, 1) := by decide +kernel
theorem dL_isStep_777 : decode cL_isStep 777 = .ok (.invokevirtual 55, 3) := by decide +kernel
theorem dL_isStep_780 : decode cL_isStep 780 = .ok (.iload 9, 2) := by decide +kernel
theorem dL_isStep_782 : decode cL_isStep 782 = .ok (.if_icmp .ne 7, 3) := by decide +kernel
theorem dL_isStep_785 : decode cL_isStep 785 = .ok (.iconst 1, 1) := by decide +kernel
theorem dL_isStep_786 : decode cL_isStep 786 = .ok (.goto 4, 3) := by decide +kernel
theorem dL_isStep_789 : decode cL_isStep 789 = .ok (.iconst 0, 1) := by decide +kernel
theorem dL_isStep_790 : decode cL_isStep 790 = .ok (.ireturn, 1) := by decide +kernel
theorem dL_isStep_791 : decode cL_isStep 791 = .ok (.aload_n 0, 1) := by decide +kernel
theorem dL_isStep_792 : decode cL_isStep 792 = .ok (.aload_n 1, 1) := by decide +kernel
theorem dL_isStep_793 : decode cL_isStep 793 = .ok (.iload 6, 2) := by decide +kernel
theorem dL_isStep_795 : decode cL_isStep 795 = .ok (.iload 4, 2) := by decide +kernel
theorem dL_isStep_797 : decode cL_isStep 797 = .ok (.iconst 3, 1) := by decide +kernel
theorem dL_isStep_798 : decode cL_isStep 798 = .ok (.ishr, 1) := by decide +kernel
theorem dL_isStep_799 : decode cL_isStep 799 = .ok (.bipush 6, 2) := by decide +kernel
theorem dL_isStep_801 : decode cL_isStep 801 = .ok (.invokestatic 19, 3) := by decide +kernel
theorem dL_isStep_804 : decode cL_isStep 804 = .ok (.iload_n 3, 1) := by decide +kernel
theorem dL_isStep_805 : decode cL_isStep 805 = .ok (.iload 4, 2) := by decide +kernel
theorem dL_isStep_807 : decode cL_isStep 807 = .ok (.invokestatic 65, 3) := by decide +kernel
theorem dL_isStep_810 : decode cL_isStep 810 = .ok (.ireturn, 1) := by decide +kernel
theorem dL_isStep_811 : decode cL_isStep 811 = .ok (.aload_n 0, 1) := by decide +kernel
theorem dL_isStep_812 : decode cL_isStep 812 = .ok (.bipush 20, 2) := by decide +kernel
theorem dL_isStep_814 : decode cL_isStep 814 = .ok (.invokevirtual 25, 3) := by decide +kernel
theorem dL_isStep_817 : decode cL_isStep 817 = .ok (.ifCond .eq 14, 3) := by decide +kernel
theorem dL_isStep_820 : decode cL_isStep 820 = .ok (.aload_n 0, 1) := by decide +kernel
theorem dL_isStep_821 : decode cL_isStep 821 = .ok (.invokevirtual 69, 3) := by decide +kernel
theorem dL_isStep_824 : decode cL_isStep 824 = .ok (.aload_n 1, 1) := by decide +kernel
theorem dL_isStep_825 : decode cL_isStep 825 = .ok (.invokevirtual 69, 3) := by decide +kernel
theorem dL_isStep_828 : decode cL_isStep 828 = .ok (.if_icmp .ne 7, 3) := by decide +kernel
theorem dL_isStep_831 : decode cL_isStep 831 = .ok (.iconst 1, 1) := by decide +kernel
theorem dL_isStep_832 : decode cL_isStep 832 = .ok (.goto 4, 3) := by decide +kernel
theorem dL_isStep_835 : decode cL_isStep 835 = .ok (.iconst 0, 1) := by decide +kernel
theorem dL_isStep_836 : decode cL_isStep 836 = .ok (.ireturn, 1) := by decide +kernel
theorem dL_isStep_837 : decode cL_isStep 837 = .ok (.iload_n 3, 1) := by decide +kernel
theorem dL_isStep_838 : decode cL_isStep 838 = .ok (.iconst 2, 1) := by decide +kernel
theorem dL_isStep_839 : decode cL_isStep 839 = .ok (.invokestatic 19, 3) := by decide +kernel
theorem dL_isStep_842 : decode cL_isStep 842 = .ok (.ifCond .ne 34, 3) := by decide +kernel
theorem dL_isStep_845 : decode cL_isStep 845 = .ok (.aload_n 0, 1) := by decide +kernel
theorem dL_isStep_846 : decode cL_isStep 846 = .ok (.iload 4, 2) := by decide +kernel
theorem dL_isStep_848 : decode cL_isStep 848 = .ok (.iconst 2, 1) := by decide +kernel
theorem dL_isStep_849 : decode cL_isStep 849 = .ok (.invokestatic 19, 3) := by decide +kernel
theorem dL_isStep_852 : decode cL_isStep 852 = .ok (.invokevirtual 72, 3) := by decide +kernel
theorem dL_isStep_855 : decode cL_isStep 855 = .ok (.aload_n 1, 1) := by decide +kernel
theorem dL_isStep_856 : decode cL_isStep 856 = .ok (.iload 4, 2) := by decide +kernel
theorem dL_isStep_858 : decode cL_isStep 858 = .ok (.iconst 2, 1) := by decide +kernel
theorem dL_isStep_859 : decode cL_isStep 859 = .ok (.invokestatic 19, 3) := by decide +kernel
theorem dL_isStep_862 : decode cL_isStep 862 = .ok (.invokevirtual 72, 3) := by decide +kernel
theorem dL_isStep_865 : decode cL_isStep 865 = .ok (.if_icmp .ne 7, 3) := by decide +kernel
theorem dL_isStep_868 : decode cL_isStep 868 = .ok (.iconst 1, 1) := by decide +kernel
theorem dL_isStep_869 : decode cL_isStep 869 = .ok (.goto 35, 3) := by decide +kernel
theorem dL_isStep_872 : decode cL_isStep 872 = .ok (.iconst 0, 1) := by decide +kernel
theorem dL_isStep_873 : decode cL_isStep 873 = .ok (.goto 31, 3) := by decide +kernel
theorem dL_isStep_876 : decode cL_isStep 876 = .ok (.aload_n 0, 1) := by decide +kernel
theorem dL_isStep_877 : decode cL_isStep 877 = .ok (.iload 4, 2) := by decide +kernel
theorem dL_isStep_879 : decode cL_isStep 879 = .ok (.iconst 2, 1) := by decide +kernel
theorem dL_isStep_880 : decode cL_isStep 880 = .ok (.invokestatic 19, 3) := by decide +kernel
theorem dL_isStep_883 : decode cL_isStep 883 = .ok (.invokevirtual 75, 3) := by decide +kernel
theorem dL_isStep_886 : decode cL_isStep 886 = .ok (.aload_n 1, 1) := by decide +kernel
theorem dL_isStep_887 : decode cL_isStep 887 = .ok (.iload 4, 2) := by decide +kernel
theorem dL_isStep_889 : decode cL_isStep 889 = .ok (.iconst 2, 1) := by decide +kernel
theorem dL_isStep_890 : decode cL_isStep 890 = .ok (.invokestatic 19, 3) := by decide +kernel
theorem dL_isStep_893 : decode cL_isStep 893 = .ok (.invokevirtual 75, 3) := by decide +kernel
theorem dL_isStep_896 : decode cL_isStep 896 = .ok (.if_icmp .ne 7, 3) := by decide +kernel
theorem dL_isStep_899 : decode cL_isStep 899 = .ok (.iconst 1, 1) := by decide +kernel
theorem dL_isStep_900 : decode cL_isStep 900 = .ok (.goto 4, 3) := by decide +kernel
theorem dL_isStep_903 : decode cL_isStep 903 = .ok (.iconst 0, 1) := by decide +kernel
theorem dL_isStep_904 : decode cL_isStep 904 = .ok (.ireturn, 1) := by decide +kernel
theorem dL_isStep_905 : decode cL_isStep 905 = .ok (.aload_n 0, 1) := by decide +kernel
theorem dL_isStep_906 : decode cL_isStep 906 = .ok (.iload 5, 2) := by decide +kernel
theorem dL_isStep_908 : decode cL_isStep 908 = .ok (.iload 6, 2) := by decide +kernel
theorem dL_isStep_910 : decode cL_isStep 910 = .ok (.ifCond .eq 7, 3) := by decide +kernel
theorem dL_isStep_913 : decode cL_isStep 913 = .ok (.iconst 0, 1) := by decide +kernel
theorem dL_isStep_914 : decode cL_isStep 914 = .ok (.goto 4, 3) := by decide +kernel
theorem dL_isStep_917 : decode cL_isStep 917 = .ok (.iconst 1, 1) := by decide +kernel
theorem dL_isStep_918 : decode cL_isStep 918 = .ok (.invokevirtual 55, 3) := by decide +kernel
theorem dL_isStep_921 : decode cL_isStep 921 = .ok (.istore 8, 2) := by decide +kernel
theorem dL_isStep_923 : decode cL_isStep 923 = .ok (.aload_n 0, 1) := by decide +kernel
theorem dL_isStep_924 : decode cL_isStep 924 = .ok (.iload 6, 2) := by decide +kernel
theorem dL_isStep_926 : decode cL_isStep 926 = .ok (.iload 5, 2) := by decide +kernel
theorem dL_isStep_928 : decode cL_isStep 928 = .ok (.iload 7, 2) := by decide +kernel
theorem dL_isStep_930 : decode cL_isStep 930 = .ok (.invokevirtual 78, 3) := by decide +kernel
theorem dL_isStep_933 : decode cL_isStep 933 = .ok (.iload 8, 2) := by decide +kernel
theorem dL_isStep_935 : decode cL_isStep 935 = .ok (.if_icmp .ne 46, 3) := by decide +kernel
theorem dL_isStep_938 : decode cL_isStep 938 = .ok (.aload_n 1, 1) := by decide +kernel
theorem dL_isStep_939 : decode cL_isStep 939 = .ok (.iload 6, 2) := by decide +kernel
theorem dL_isStep_941 : decode cL_isStep 941 = .ok (.iload 5, 2) := by decide +kernel
theorem dL_isStep_943 : decode cL_isStep 943 = .ok (.invokestatic 52, 3) := by decide +kernel
theorem dL_isStep_946 : decode cL_isStep 946 = .ok (.iload 7, 2) := by decide +kernel
theorem dL_isStep_948 : decode cL_isStep 948 = .ok (.invokevirtual 78, 3) := by decide +kernel
theorem dL_isStep_951 : decode cL_isStep 951 = .ok (.iload 8, 2) := by decide +kernel
theorem dL_isStep_953 : decode cL_isStep 953 = .ok (.if_icmp .ne 28, 3) := by decide +kernel
theorem dL_isStep_956 : decode cL_isStep 956 = .ok (.aload_n 0, 1) := by decide +kernel
theorem dL_isStep_957 : decode cL_isStep 957 = .ok (.iload 5, 2) := by decide +kernel
theorem dL_isStep_959 : decode cL_isStep 959 = .ok (.iload 6, 2) := by decide +kernel
theorem dL_isStep_961 : decode cL_isStep 961 = .ok (.ifCond .eq 7, 3) := by decide +kernel
theorem dL_isStep_964 : decode cL_isStep 964 = .ok (.iconst 0, 1) := by decide +kernel
theorem dL_isStep_965 : decode cL_isStep 965 = .ok (.goto 4, 3) := by decide +kernel
theorem dL_isStep_968 : decode cL_isStep 968 = .ok (.iconst 1, 1) := by decide +kernel
theorem dL_isStep_969 : decode cL_isStep 969 = .ok (.invokevirtual 55, 3) := by decide +kernel
theorem dL_isStep_972 : decode cL_isStep 972 = .ok (.iload 7, 2) := by decide +kernel
theorem dL_isStep_974 : decode cL_isStep 974 = .ok (.if_icmp .ne 7, 3) := by decide +kernel
theorem dL_isStep_977 : decode cL_isStep 977 = .ok (.iconst 1, 1) := by decide +kernel
theorem dL_isStep_978 : decode cL_isStep 978 = .ok (.goto 4, 3) := by decide +kernel
theorem dL_isStep_981 : decode cL_isStep 981 = .ok (.iconst 0, 1) := by decide +kernel
theorem dL_isStep_982 : decode cL_isStep 982 = .ok (.ireturn, 1) := by decide +kernel
set_option maxRecDepth 20000 in
theorem ggL_areAlike_X4_bestScreen : GoodIn wsL_areAlike wsX4_bestScreen := goodIn_r _ [5, 6, 7, 8, 9, 10, 11, 12, 13, 14, 15, 16, 17, 18, 19, 20, 21, 22, 23, 24, 25, 26, 27, 28, 29, 30, 31, 32, 33, 34, 35, 36, 37, 38, 39, 40, 41, 42, 4, 43, 44, 45, 46, 47, 48, 49, 50, 51, 52, 53, 54, 55, 56, 57, 58, 59, 60, 61, 62, 63, 64, 65, 66, 67, 68, 69, 70, 71, 72, 73, 74, 75, 76, 77, 196, 197, 198, 199, 200, 201, 202, 203, 204, 205, 206, 207, 208, 209, 210, 211, 212, 213, 214, 215, 216, 217] (by decide +kernel) (by decide +kernel)
set_option maxRecDepth 20000 in
theorem gL_areAlike_X4_bestScreen : GoodIn wsL_areAlike (wsV RL 82 RX4 yX4_bestScreen wsX4_bestScreen) := goodIn_app (goodIn_of _ (by decide +kernel)) ggL_areAlike_X4_bestScreen
set_option maxRecDepth 20000 in
theorem ggL_areAlike_X4_count : GoodIn wsL_areAlike wsX4_count := goodIn_r _ [81, 7, 82, 83, 9, 84, 85, 86, 87, 88, 8, 89, 90, 91, 92, 93, 94, 95, 28, 96, 32, 33, 34, 35, 36, 37, 30, 38, 39, 40, 14, 41, 21, 24, 42, 4, 43, 44, 45, 46, 47, 48, 49, 50, 51, 52, 53, 54, 55, 56, 57, 58, 59, 60, 61, 62, 63, 64, 65, 66, 67, 68, 69, 70, 71, 72, 73, 74, 75, 76, 77, 97, 98, 99, 100, 101, 31, 102, 103, 104, 105, 106, 107, 108, 109, 110, 111, 112, 113, 114, 115, 116, 117, 118, 119, 120, 121, 122, 123, 124, 125, 126, 127, 128, 129, 130, 131, 132, 133, 134, 135, 136, 137, 138, 139, 140, 141, 142, 143, 144, 145, 146, 147, 148, 149, 150, 23, 196, 197, 198, 199, 200, 201, 202, 203, 204, 205, 206, 207, 208, 209, 210, 211, 212, 213, 214, 215, 216, 217, 218, 219, 220, 221, 222] (by decide +kernel) (by decide +kernel)
set_option maxRecDepth 20000 in
theorem gL_areAlike_X4_count : GoodIn wsL_areAlike (wsV RL 25 RX4 yX4_count wsX4_count) := goodIn_app (goodIn_of _ (by decide +kernel)) ggL_areAlike_X4_count
set_option maxRecDepth 20000 in
theorem ggL_areAlike_X4_pixel : GoodIn wsL_areAlike wsX4_pixel := goodIn_r _ [154, 83, 7, 8, 88, 155, 84, 156, 85, 86, 157, 87, 158, 42, 4, 43, 93, 94, 95, 28, 96, 32, 33, 34, 35, 36, 37, 30, 38, 39, 40, 14, 41, 21, 24, 44, 45, 46, 47, 48, 49, 50, 51, 52, 53, 54, 55, 56, 57, 58, 59, 60, 61, 62, 63, 64, 65, 66, 67, 68, 69, 70, 71, 72, 73, 74, 75, 76, 77, 97, 98, 99, 100, 101, 31, 102, 103, 104, 105, 106, 107, 108, 109, 110, 111, 112, 113, 114, 115, 116, 117, 118, 119, 120, 121, 122, 123, 124, 125, 126, 127, 128, 129, 130, 131, 132, 159, 196, 197, 198, 199, 200, 201, 202, 203, 204, 205, 206, 207, 208, 209, 210, 211, 212, 213, 214, 215, 216, 217] (by decide +kernel) (by decide +kernel)
set_option maxRecDepth 20000 in
theorem gL_areAlike_X4_pixel : GoodIn wsL_areAlike (wsV RL 55 RX4 yX4_pixel wsX4_pixel) := goodIn_app (goodIn_of _ (by decide +kernel)) ggL_areAlike_X4_pixel
set_option maxRecDepth 20000 in
theorem ggL_areAlike_L_there : GoodIn wsL_areAlike wsL_there := goodIn_r _ [163] (by decide +kernel) (by decide +kernel)
set_option maxRecDepth 20000 in
theorem gL_areAlike_L_there : GoodIn wsL_areAlike (va_wsS RL 52 yL_there wsL_there) := goodIn_app (goodIn_of _ (by decide +kernel)) ggL_areAlike_L_there
set_option maxRecDepth 20000 in
theorem ggL_areAlike_X4_bestShare : GoodIn wsL_areAlike wsX4_bestShare := goodIn_r _ [167, 6, 7, 10, 11, 12, 13, 14, 15, 16, 17, 18, 19, 20, 21, 22, 23, 24, 168, 169, 170, 171, 172, 4, 173, 93, 94, 95, 28, 96, 32, 33, 34, 35, 36, 37, 30, 38, 39, 40, 41, 42, 43, 44, 45, 46, 47, 48, 49, 50, 51, 52, 53, 54, 55, 56, 57, 58, 59, 60, 61, 62, 63, 64, 65, 66, 67, 68, 69, 70, 71, 72, 73, 74, 75, 76, 77, 97, 98, 99, 100, 101, 31, 102, 103, 104, 105, 106, 107, 108, 109, 110, 111, 112, 113, 114, 115, 116, 117, 118, 119, 120, 121, 122, 123, 124, 125, 126, 127, 128, 129, 130, 131, 132, 174, 175, 176, 177, 196, 197, 198, 199, 200, 201, 202, 203, 204, 205, 206, 207, 208, 209, 210, 211, 212, 213, 214, 215, 216, 217] (by decide +kernel) (by decide +kernel)
set_option maxRecDepth 20000 in
theorem gL_areAlike_X4_bestShare : GoodIn wsL_areAlike (wsV RL 85 RX4 yX4_bestShare wsX4_bestShare) := goodIn_app (goodIn_of _ (by decide +kernel)) ggL_areAlike_X4_bestShare
set_option maxRecDepth 20000 in
theorem ggL_areAlike_L_up : GoodIn wsL_areAlike wsL_up := goodIn_r _ [180, 181] (by decide +kernel) (by decide +kernel)
set_option maxRecDepth 20000 in
theorem gL_areAlike_L_up : GoodIn wsL_areAlike (va_wsS RL 19 yL_up wsL_up) := goodIn_app (goodIn_of _ (by decide +kernel)) ggL_areAlike_L_up
set_option maxRecDepth 20000 in
theorem ggL_areAlike_X4_ifSet : GoodIn wsL_areAlike wsX4_ifSet := goodIn_r _ [185, 6, 7, 83, 10, 87, 186, 187, 188, 4, 189, 190, 82, 191, 172, 173, 11, 12, 13, 14, 15, 16, 17, 18, 19, 20, 21, 22, 23, 24, 168, 169, 170, 171, 93, 94, 95, 28, 96, 32, 33, 34, 35, 36, 37, 30, 38, 39, 40, 41, 42, 43, 44, 45, 46, 47, 48, 49, 50, 51, 52, 53, 54, 55, 56, 57, 58, 59, 60, 61, 62, 63, 64, 65, 66, 67, 68, 69, 70, 71, 72, 73, 74, 75, 76, 77, 97, 98, 99, 100, 101, 31, 102, 103, 104, 105, 106, 107, 108, 109, 110, 111, 112, 113, 114, 115, 116, 117, 118, 119, 120, 121, 122, 123, 124, 125, 126, 127, 128, 129, 130, 131, 132, 144, 145, 146, 196, 197, 198, 199, 200, 201, 202, 208, 209, 210, 211, 212, 213, 214, 215, 216, 217, 203, 204, 205, 206, 207] (by decide +kernel) (by decide +kernel)
set_option maxRecDepth 20000 in
theorem gL_areAlike_X4_ifSet : GoodIn wsL_areAlike (wsV RL 39 RX4 yX4_ifSet wsX4_ifSet) := goodIn_app (goodIn_of _ (by decide +kernel)) ggL_areAlike_X4_ifSet
set_option maxRecDepth 20000 in
theorem ggL_areAlike_X4_leastNear : GoodIn wsL_areAlike wsX4_leastNear := goodIn_r _ [195, 7, 82, 158, 42, 4, 43, 159, 39, 40, 14, 41, 21, 24, 44, 45, 46, 47, 48, 49, 50, 51, 52, 53, 54, 55, 196, 197, 198, 199, 200, 201, 202, 203, 204, 205, 206, 207] (by decide +kernel) (by decide +kernel)
set_option maxRecDepth 20000 in
theorem gL_areAlike_X4_leastNear : GoodIn wsL_areAlike (wsV RL 88 RX4 yX4_leastNear wsX4_leastNear) := goodIn_app (goodIn_of _ (by decide +kernel)) ggL_areAlike_X4_leastNear
theorem dL_areAlike_0 : decode cL_areAlike 0 = .ok (.aload_n 0, 1) := by decide +kernel
theorem dL_areAlike_1 : decode cL_areAlike 1 = .ok (.iconst 1, 1) := by decide +kernel
theorem dL_areAlike_2 : decode cL_areAlike 2 = .ok (.invokevirtual 82, 3) := by decide +kernel
theorem dL_areAlike_5 : decode cL_areAlike 5 = .ok (.aload_n 1, 1) := by decide +kernel
theorem dL_areAlike_6 : decode cL_areAlike 6 = .ok (.iconst 1, 1) := by decide +kernel
theorem dL_areAlike_7 : decode cL_areAlike 7 = .ok (.invokevirtual 82, 3) := by decide +kernel
theorem dL_areAlike_10 : decode cL_areAlike 10 = .ok (.if_icmp .ne 7, 3) := by decide +kernel
theorem dL_areAlike_13 : decode cL_areAlike 13 = .ok (.iconst 1, 1) := by decide +kernel
theorem dL_areAlike_14 : decode cL_areAlike 14 = .ok (.goto 4, 3) := by decide +kernel
theorem dL_areAlike_17 : decode cL_areAlike 17 = .ok (.iconst 0, 1) := by decide +kernel
theorem dL_areAlike_18 : decode cL_areAlike 18 = .ok (.istore_n 3, 1) := by decide +kernel
theorem dL_areAlike_19 : decode cL_areAlike 19 = .ok (.iconst 0, 1) := by decide +kernel
theorem dL_areAlike_20 : decode cL_areAlike 20 = .ok (.istore 4, 2) := by decide +kernel
theorem dL_areAlike_22 : decode cL_areAlike 22 = .ok (.iload 4, 2) := by decide +kernel
theorem dL_areAlike_24 : decode cL_areAlike 24 = .ok (.bipush 19, 2) := by decide +kernel
theorem dL_areAlike_26 : decode cL_areAlike 26 = .ok (.if_icmp .ge 34, 3) := by decide +kernel
theorem dL_areAlike_29 : decode cL_areAlike 29 = .ok (.iload_n 3, 1) := by decide +kernel
theorem dL_areAlike_30 : decode cL_areAlike 30 = .ok (.ifCond .eq 22, 3) := by decide +kernel
theorem dL_areAlike_33 : decode cL_areAlike 33 = .ok (.aload_n 0, 1) := by decide +kernel
theorem dL_areAlike_34 : decode cL_areAlike 34 = .ok (.iload 4, 2) := by decide +kernel
theorem dL_areAlike_36 : decode cL_areAlike 36 = .ok (.invokevirtual 25, 3) := by decide +kernel
theorem dL_areAlike_39 : decode cL_areAlike 39 = .ok (.aload_n 1, 1) := by decide +kernel
theorem dL_areAlike_40 : decode cL_areAlike 40 = .ok (.iload 4, 2) := by decide +kernel
theorem dL_areAlike_42 : decode cL_areAlike 42 = .ok (.invokevirtual 25, 3) := by decide +kernel
theorem dL_areAlike_45 : decode cL_areAlike 45 = .ok (.if_icmp .ne 7, 3) := by decide +kernel
theorem dL_areAlike_48 : decode cL_areAlike 48 = .ok (.iconst 1, 1) := by decide +kernel
theorem dL_areAlike_49 : decode cL_areAlike 49 = .ok (.goto 4, 3) := by decide +kernel
theorem dL_areAlike_52 : decode cL_areAlike 52 = .ok (.iconst 0, 1) := by decide +kernel
theorem dL_areAlike_53 : decode cL_areAlike 53 = .ok (.istore_n 3, 1) := by decide +kernel
theorem dL_areAlike_54 : decode cL_areAlike 54 = .ok (.iinc 4 1, 3) := by decide +kernel
theorem dL_areAlike_57 : decode cL_areAlike 57 = .ok (.goto (-35), 3) := by decide +kernel
theorem dL_areAlike_60 : decode cL_areAlike 60 = .ok (.iconst 0, 1) := by decide +kernel
theorem dL_areAlike_61 : decode cL_areAlike 61 = .ok (.istore 4, 2) := by decide +kernel
theorem dL_areAlike_63 : decode cL_areAlike 63 = .ok (.iload 4, 2) := by decide +kernel
theorem dL_areAlike_65 : decode cL_areAlike 65 = .ok (.sipush 480, 3) := by decide +kernel
theorem dL_areAlike_68 : decode cL_areAlike 68 = .ok (.if_icmp .ge 53, 3) := by decide +kernel
theorem dL_areAlike_71 : decode cL_areAlike 71 = .ok (.iload_n 3, 1) := by decide +kernel
theorem dL_areAlike_72 : decode cL_areAlike 72 = .ok (.ifCond .eq 41, 3) := by decide +kernel
theorem dL_areAlike_75 : decode cL_areAlike 75 = .ok (.aload_n 0, 1) := by decide +kernel
theorem dL_areAlike_76 : decode cL_areAlike 76 = .ok (.iload 4, 2) := by decide +kernel
theorem dL_areAlike_78 : decode cL_areAlike 78 = .ok (.bipush 10, 2) := by decide +kernel
theorem dL_areAlike_80 : decode cL_areAlike 80 = .ok (.idiv, 1) := by decide +kernel
theorem dL_areAlike_81 : decode cL_areAlike 81 = .ok (.iload 4, 2) := by decide +kernel
theorem dL_areAlike_83 : decode cL_areAlike 83 = .ok (.bipush 10, 2) := by decide +kernel
theorem dL_areAlike_85 : decode cL_areAlike 85 = .ok (.irem, 1) := by decide +kernel
theorem dL_areAlike_86 : decode cL_areAlike 86 = .ok (.invokevirtual 55, 3) := by decide +kernel
theorem dL_areAlike_89 : decode cL_areAlike 89 = .ok (.aload_n 1, 1) := by decide +kernel
theorem dL_areAlike_90 : decode cL_areAlike 90 = .ok (.iload 4, 2) := by decide +kernel
theorem dL_areAlike_92 : decode cL_areAlike 92 = .ok (.bipush 10, 2) := by decide +kernel
theorem dL_areAlike_94 : decode cL_areAlike 94 = .ok (.idiv, 1) := by decide +kernel
theorem dL_areAlike_95 : decode cL_areAlike 95 = .ok (.invokestatic 52, 3) := by decide +kernel
theorem dL_areAlike_98 : decode cL_areAlike 98 = .ok (.iload 4, 2) := by decide +kernel
theorem dL_areAlike_100 : decode cL_areAlike 100 = .ok (.bipush 10, 2) := by decide +kernel
theorem dL_areAlike_102 : decode cL_areAlike 102 = .ok (.irem, 1) := by decide +kernel
theorem dL_areAlike_103 : decode cL_areAlike 103 = .ok (.invokevirtual 55, 3) := by decide +kernel
theorem dL_areAlike_106 : decode cL_areAlike 106 = .ok (.if_icmp .ne 7, 3) := by decide +kernel
theorem dL_areAlike_109 : decode cL_areAlike 109 = .ok (.iconst 1, 1) := by decide +kernel
theorem dL_areAlike_110 : decode cL_areAlike 110 = .ok (.goto 4, 3) := by decide +kernel
theorem dL_areAlike_113 : decode cL_areAlike 113 = .ok (.iconst 0, 1) := by decide +kernel
theorem dL_areAlike_114 : decode cL_areAlike 114 = .ok (.istore_n 3, 1) := by decide +kernel
theorem dL_areAlike_115 : decode cL_areAlike 115 = .ok (.iinc 4 1, 3) := by decide +kernel
theorem dL_areAlike_118 : decode cL_areAlike 118 = .ok (.goto (-55), 3) := by decide +kernel
theorem dL_areAlike_121 : decode cL_areAlike 121 = .ok (.iconst 2, 1) := by decide +kernel
theorem dL_areAlike_122 : decode cL_areAlike 122 = .ok (.istore 4, 2) := by decide +kernel
theorem dL_areAlike_124 : decode cL_areAlike 124 = .ok (.iload 4, 2) := by decide +kernel
theorem dL_areAlike_126 : decode cL_areAlike 126 = .ok (.iconst 5, 1) := by decide +kernel
theorem dL_areAlike_127 : decode cL_areAlike 127 = .ok (.if_icmp .ge 53, 3) := by decide +kernel
theorem dL_areAlike_130 : decode cL_areAlike 130 = .ok (.iload_n 3, 1) := by decide +kernel
theorem dL_areAlike_131 : decode cL_areAlike 131 = .ok (.ifCond .eq 41, 3) := by decide +kernel
theorem dL_areAlike_134 : decode cL_areAlike 134 = .ok (.aload_n 0, 1) := by decide +kernel
theorem dL_areAlike_135 : decode cL_areAlike 135 = .ok (.iload 4, 2) := by decide +kernel
theorem dL_areAlike_137 : decode cL_areAlike 137 = .ok (.iconst 0, 1) := by decide +kernel
theorem dL_areAlike_138 : decode cL_areAlike 138 = .ok (.invokevirtual 85, 3) := by decide +kernel
theorem dL_areAlike_141 : decode cL_areAlike 141 = .ok (.aload_n 1, 1) := by decide +kernel
theorem dL_areAlike_142 : decode cL_areAlike 142 = .ok (.iload 4, 2) := by decide +kernel
theorem dL_areAlike_144 : decode cL_areAlike 144 = .ok (.iconst 0, 1) := by decide +kernel
theorem dL_areAlike_145 : decode cL_areAlike 145 = .ok (.invokevirtual 85, 3) := by decide +kernel
theorem dL_areAlike_148 : decode cL_areAlike 148 = .ok (.if_icmp .ne 24, 3) := by decide +kernel
theorem dL_areAlike_151 : decode cL_areAlike 151 = .ok (.aload_n 0, 1) := by decide +kernel
theorem dL_areAlike_152 : decode cL_areAlike 152 = .ok (.iload 4, 2) := by decide +kernel
theorem dL_areAlike_154 : decode cL_areAlike 154 = .ok (.iconst 1, 1) := by decide +kernel
theorem dL_areAlike_155 : decode cL_areAlike 155 = .ok (.invokevirtual 85, 3) := by decide +kernel
theorem dL_areAlike_158 : decode cL_areAlike 158 = .ok (.aload_n 1, 1) := by decide +kernel
theorem dL_areAlike_159 : decode cL_areAlike 159 = .ok (.iload 4, 2) := by decide +kernel
theorem dL_areAlike_161 : decode cL_areAlike 161 = .ok (.iconst 1, 1) := by decide +kernel
theorem dL_areAlike_162 : decode cL_areAlike 162 = .ok (.invokevirtual 85, 3) := by decide +kernel
theorem dL_areAlike_165 : decode cL_areAlike 165 = .ok (.if_icmp .ne 7, 3) := by decide +kernel
theorem dL_areAlike_168 : decode cL_areAlike 168 = .ok (.iconst 1, 1) := by decide +kernel
theorem dL_areAlike_169 : decode cL_areAlike 169 = .ok (.goto 4, 3) := by decide +kernel
theorem dL_areAlike_172 : decode cL_areAlike 172 = .ok (.iconst 0, 1) := by decide +kernel
theorem dL_areAlike_173 : decode cL_areAlike 173 = .ok (.istore_n 3, 1) := by decide +kernel
theorem dL_areAlike_174 : decode cL_areAlike 174 = .ok (.iinc 4 1, 3) := by decide +kernel
theorem dL_areAlike_177 : decode cL_areAlike 177 = .ok (.goto (-53), 3) := by decide +kernel
theorem dL_areAlike_180 : decode cL_areAlike 180 = .ok (.iload_n 2, 1) := by decide +kernel
theorem dL_areAlike_181 : decode cL_areAlike 181 = .ok (.bipush 6, 2) := by decide +kernel
theorem dL_areAlike_183 : decode cL_areAlike 183 = .ok (.invokestatic 19, 3) := by decide +kernel
theorem dL_areAlike_186 : decode cL_areAlike 186 = .ok (.istore 4, 2) := by decide +kernel
theorem dL_areAlike_188 : decode cL_areAlike 188 = .ok (.iload 4, 2) := by decide +kernel
theorem dL_areAlike_190 : decode cL_areAlike 190 = .ok (.iconst 2, 1) := by decide +kernel
theorem dL_areAlike_191 : decode cL_areAlike 191 = .ok (.if_icmp .ge 14, 3) := by decide +kernel
theorem dL_areAlike_194 : decode cL_areAlike 194 = .ok (.iload_n 2, 1) := by decide +kernel
theorem dL_areAlike_195 : decode cL_areAlike 195 = .ok (.iconst 3, 1) := by decide +kernel
theorem dL_areAlike_196 : decode cL_areAlike 196 = .ok (.ishr, 1) := by decide +kernel
theorem dL_areAlike_197 : decode cL_areAlike 197 = .ok (.bipush 46, 2) := by decide +kernel
theorem dL_areAlike_199 : decode cL_areAlike 199 = .ok (.invokestatic 19, 3) := by decide +kernel
theorem dL_areAlike_202 : decode cL_areAlike 202 = .ok (.goto 27, 3) := by decide +kernel
theorem dL_areAlike_205 : decode cL_areAlike 205 = .ok (.iload 4, 2) := by decide +kernel
theorem dL_areAlike_207 : decode cL_areAlike 207 = .ok (.iconst 5, 1) := by decide +kernel
theorem dL_areAlike_208 : decode cL_areAlike 208 = .ok (.if_icmp .ge 14, 3) := by decide +kernel
theorem dL_areAlike_211 : decode cL_areAlike 211 = .ok (.iload_n 2, 1) := by decide +kernel
theorem dL_areAlike_212 : decode cL_areAlike 212 = .ok (.iconst 3, 1) := by decide +kernel
theorem dL_areAlike_213 : decode cL_areAlike 213 = .ok (.ishr, 1) := by decide +kernel
theorem dL_areAlike_214 : decode cL_areAlike 214 = .ok (.bipush 17, 2) := by decide +kernel
theorem dL_areAlike_216 : decode cL_areAlike 216 = .ok (.invokestatic 19, 3) := by decide +kernel
theorem dL_areAlike_219 : decode cL_areAlike 219 = .ok (.goto 10, 3) := by decide +kernel
theorem dL_areAlike_222 : decode cL_areAlike 222 = .ok (.iload_n 2, 1) := by decide +kernel
theorem dL_areAlike_223 : decode cL_areAlike 223 = .ok (.iconst 3, 1) := by decide +kernel
theorem dL_areAlike_224 : decode cL_areAlike 224 = .ok (.ishr, 1) := by decide +kernel
theorem dL_areAlike_225 : decode cL_areAlike 225 = .ok (.iconst 2, 1) := by decide +kernel
theorem dL_areAlike_226 : decode cL_areAlike 226 = .ok (.invokestatic 19, 3) := by decide +kernel
theorem dL_areAlike_229 : decode cL_areAlike 229 = .ok (.istore 5, 2) := by decide +kernel
theorem dL_areAlike_231 : decode cL_areAlike 231 = .ok (.iload_n 3, 1) := by decide +kernel
theorem dL_areAlike_232 : decode cL_areAlike 232 = .ok (.ifCond .eq 73, 3) := by decide +kernel
theorem dL_areAlike_235 : decode cL_areAlike 235 = .ok (.aload_n 0, 1) := by decide +kernel
theorem dL_areAlike_236 : decode cL_areAlike 236 = .ok (.iload 4, 2) := by decide +kernel
theorem dL_areAlike_238 : decode cL_areAlike 238 = .ok (.iload 5, 2) := by decide +kernel
theorem dL_areAlike_240 : decode cL_areAlike 240 = .ok (.invokevirtual 39, 3) := by decide +kernel
theorem dL_areAlike_243 : decode cL_areAlike 243 = .ok (.aload_n 1, 1) := by decide +kernel
theorem dL_areAlike_244 : decode cL_areAlike 244 = .ok (.iload 4, 2) := by decide +kernel
theorem dL_areAlike_246 : decode cL_areAlike 246 = .ok (.iload 5, 2) := by decide +kernel
theorem dL_areAlike_248 : decode cL_areAlike 248 = .ok (.invokevirtual 39, 3) := by decide +kernel
theorem dL_areAlike_251 : decode cL_areAlike 251 = .ok (.if_icmp .ne 54, 3) := by decide +kernel
theorem dL_areAlike_254 : decode cL_areAlike 254 = .ok (.aload_n 0, 1) := by decide +kernel
theorem dL_areAlike_255 : decode cL_areAlike 255 = .ok (.iload 4, 2) := by decide +kernel
theorem dL_areAlike_257 : decode cL_areAlike 257 = .ok (.aload_n 0, 1) := by decide +kernel
theorem dL_areAlike_258 : decode cL_areAlike 258 = .ok (.iload 4, 2) := by decide +kernel
theorem dL_areAlike_260 : decode cL_areAlike 260 = .ok (.invokevirtual 25, 3) := by decide +kernel
theorem dL_areAlike_263 : decode cL_areAlike 263 = .ok (.invokevirtual 39, 3) := by decide +kernel
theorem dL_areAlike_266 : decode cL_areAlike 266 = .ok (.ifCond .ne 39, 3) := by decide +kernel
theorem dL_areAlike_269 : decode cL_areAlike 269 = .ok (.aload_n 0, 1) := by decide +kernel
theorem dL_areAlike_270 : decode cL_areAlike 270 = .ok (.iload_n 2, 1) := by decide +kernel
theorem dL_areAlike_271 : decode cL_areAlike 271 = .ok (.bipush 9, 2) := by decide +kernel
theorem dL_areAlike_273 : decode cL_areAlike 273 = .ok (.ishr, 1) := by decide +kernel
theorem dL_areAlike_274 : decode cL_areAlike 274 = .ok (.bipush 48, 2) := by decide +kernel
theorem dL_areAlike_276 : decode cL_areAlike 276 = .ok (.invokestatic 19, 3) := by decide +kernel
theorem dL_areAlike_279 : decode cL_areAlike 279 = .ok (.invokevirtual 88, 3) := by decide +kernel
theorem dL_areAlike_282 : decode cL_areAlike 282 = .ok (.aload_n 1, 1) := by decide +kernel
theorem dL_areAlike_283 : decode cL_areAlike 283 = .ok (.iload_n 2, 1) := by decide +kernel
theorem dL_areAlike_284 : decode cL_areAlike 284 = .ok (.bipush 9, 2) := by decide +kernel
theorem dL_areAlike_286 : decode cL_areAlike 286 = .ok (.ishr, 1) := by decide +kernel
theorem dL_areAlike_287 : decode cL_areAlike 287 = .ok (.bipush 48, 2) := by decide +kernel
theorem dL_areAlike_289 : decode cL_areAlike 289 = .ok (.invokestatic 19, 3) := by decide +kernel
theorem dL_areAlike_292 : decode cL_areAlike 292 = .ok (.invokestatic 52, 3) := by decide +kernel
theorem dL_areAlike_295 : decode cL_areAlike 295 = .ok (.invokevirtual 88, 3) := by decide +kernel
theorem dL_areAlike_298 : decode cL_areAlike 298 = .ok (.if_icmp .ne 7, 3) := by decide +kernel
theorem dL_areAlike_301 : decode cL_areAlike 301 = .ok (.iconst 1, 1) := by decide +kernel
theorem dL_areAlike_302 : decode cL_areAlike 302 = .ok (.goto 4, 3) := by decide +kernel
theorem dL_areAlike_305 : decode cL_areAlike 305 = .ok (.iconst 0, 1) := by decide +kernel
theorem dL_areAlike_306 : decode cL_areAlike 306 = .ok (.ireturn, 1) := by decide +kernel
set_option maxRecDepth 20000 in
theorem ggL_isWell_X4_pixel : GoodIn wsL_isWell wsX4_pixel := goodIn_r _ [5, 6, 7, 8, 9, 10, 11, 12, 13, 14, 15, 16, 17, 18, 4, 19, 20, 21, 22, 23, 24, 25, 26, 27, 28, 29, 30, 31, 32, 33, 34, 35, 36, 37, 38, 39, 40, 41, 42, 43, 44, 45, 46, 47, 48, 49, 50, 51, 52, 53, 54, 55, 56, 57, 58, 59, 60, 61, 62, 63, 64, 65, 66, 67, 68, 69, 70, 71, 72, 73, 74, 75, 76, 77, 78, 79, 80, 81, 82, 83, 84, 85, 86, 87, 88, 89, 90, 91, 92, 93, 94, 95, 96, 97, 98, 99, 100, 101, 102, 103, 104, 105, 106, 107, 108, 109, 110, 147, 148, 149, 150, 151, 152, 153, 154, 155, 156, 157, 158, 159, 160, 161, 162, 163, 164, 165, 166, 167, 168] (by decide +kernel) (by decide +kernel)
set_option maxRecDepth 20000 in
theorem gL_isWell_X4_pixel : GoodIn wsL_isWell (wsV RL 55 RX4 yX4_pixel wsX4_pixel) := goodIn_app (goodIn_of _ (by decide +kernel)) ggL_isWell_X4_pixel
set_option maxRecDepth 20000 in
theorem ggL_isWell_X4_count : GoodIn wsL_isWell wsX4_count := goodIn_r _ [114, 7, 115, 6, 116, 11, 13, 14, 16, 9, 8, 117, 118, 119, 120, 20, 21, 22, 23, 24, 25, 26, 27, 28, 29, 30, 31, 32, 33, 34, 35, 36, 37, 38, 18, 4, 19, 39, 40, 41, 42, 43, 44, 45, 46, 47, 48, 49, 50, 51, 52, 53, 54, 55, 56, 57, 58, 59, 60, 61, 62, 63, 64, 65, 66, 67, 68, 69, 70, 71, 72, 73, 74, 75, 76, 77, 78, 79, 80, 81, 82, 83, 84, 85, 86, 87, 88, 89, 90, 91, 92, 93, 94, 95, 96, 97, 98, 99, 100, 101, 102, 103, 104, 105, 106, 107, 108, 109, 121, 122, 123, 124, 125, 126, 127, 128, 129, 130, 131, 132, 133, 134, 135, 136, 137, 138, 139, 147, 148, 149, 150, 151, 152, 153, 154, 155, 156, 157, 158, 159, 160, 161, 162, 163, 164, 165, 166, 167, 168, 169, 170, 171, 172, 173] (by decide +kernel) (by decide +kernel)
set_option maxRecDepth 20000 in
theorem gL_isWell_X4_count : GoodIn wsL_isWell (wsV RL 25 RX4 yX4_count wsX4_count) := goodIn_app (goodIn_of _ (by decide +kernel)) ggL_isWell_X4_count
set_option maxRecDepth 20000 in
theorem ggL_isWell_X4_row : GoodIn wsL_isWell wsX4_row := goodIn_r _ [143, 6, 7, 12, 144, 145, 4, 146, 20, 21, 22, 23, 24, 25, 26, 27, 28, 29, 30, 31, 32, 33, 34, 35, 36, 37, 38, 18, 19, 39, 40, 41, 42, 43, 44, 45, 46, 47, 48, 49, 50, 51, 52, 53, 54, 55, 56, 57, 58, 59, 60, 61, 62, 63, 64, 65, 66, 67, 68, 69, 70, 71, 72, 73, 74, 75, 76, 77, 78, 79, 80, 81, 82, 83, 84, 85, 86, 87, 88, 89, 90, 91, 92, 93, 94, 95, 96, 97, 98, 99, 100, 101, 102, 103, 104, 105, 106, 107, 108, 109, 147, 148, 149, 150, 151, 152, 153, 159, 160, 161, 162, 163, 164, 165, 166, 167, 168, 154, 155, 156, 157, 158] (by decide +kernel) (by decide +kernel)
set_option maxRecDepth 20000 in
theorem gL_isWell_X4_row : GoodIn wsL_isWell (wsV RL 91 RX4 yX4_row wsX4_row) := goodIn_app (goodIn_of _ (by decide +kernel)) ggL_isWell_X4_row
theorem dL_isWell_0 : decode cL_isWell 0 = .ok (.iconst 0, 1) := by decide +kernel
theorem dL_isWell_1 : decode cL_isWell 1 = .ok (.istore_n 1, 1) := by decide +kernel
theorem dL_isWell_2 : decode cL_isWell 2 = .ok (.iconst 0, 1) := by decide +kernel
theorem dL_isWell_3 : decode cL_isWell 3 = .ok (.istore_n 2, 1) := by decide +kernel
theorem dL_isWell_4 : decode cL_isWell 4 = .ok (.iconst 0, 1) := by decide +kernel
theorem dL_isWell_5 : decode cL_isWell 5 = .ok (.istore_n 3, 1) := by decide +kernel
theorem dL_isWell_6 : decode cL_isWell 6 = .ok (.iconst 0, 1) := by decide +kernel
theorem dL_isWell_7 : decode cL_isWell 7 = .ok (.istore 4, 2) := by decide +kernel
theorem dL_isWell_9 : decode cL_isWell 9 = .ok (.iconst 0, 1) := by decide +kernel
theorem dL_isWell_10 : decode cL_isWell 10 = .ok (.istore 5, 2) := by decide +kernel
theorem dL_isWell_12 : decode cL_isWell 12 = .ok (.iconst 1, 1) := by decide +kernel
theorem dL_isWell_13 : decode cL_isWell 13 = .ok (.istore 6, 2) := by decide +kernel
theorem dL_isWell_15 : decode cL_isWell 15 = .ok (.iconst 0, 1) := by decide +kernel
theorem dL_isWell_16 : decode cL_isWell 16 = .ok (.istore 7, 2) := by decide +kernel
theorem dL_isWell_18 : decode cL_isWell 18 = .ok (.iload 7, 2) := by decide +kernel
theorem dL_isWell_20 : decode cL_isWell 20 = .ok (.bipush 48, 2) := by decide +kernel
theorem dL_isWell_22 : decode cL_isWell 22 = .ok (.if_icmp .ge 412, 3) := by decide +kernel
theorem dL_isWell_25 : decode cL_isWell 25 = .ok (.aload_n 0, 1) := by decide +kernel
theorem dL_isWell_26 : decode cL_isWell 26 = .ok (.iload 7, 2) := by decide +kernel
theorem dL_isWell_28 : decode cL_isWell 28 = .ok (.iconst 3, 1) := by decide +kernel
theorem dL_isWell_29 : decode cL_isWell 29 = .ok (.invokevirtual 55, 3) := by decide +kernel
theorem dL_isWell_32 : decode cL_isWell 32 = .ok (.istore 8, 2) := by decide +kernel
theorem dL_isWell_34 : decode cL_isWell 34 = .ok (.aload_n 0, 1) := by decide +kernel
theorem dL_isWell_35 : decode cL_isWell 35 = .ok (.iload 7, 2) := by decide +kernel
theorem dL_isWell_37 : decode cL_isWell 37 = .ok (.iconst 4, 1) := by decide +kernel
theorem dL_isWell_38 : decode cL_isWell 38 = .ok (.invokevirtual 55, 3) := by decide +kernel
theorem dL_isWell_41 : decode cL_isWell 41 = .ok (.istore 9, 2) := by decide +kernel
theorem dL_isWell_43 : decode cL_isWell 43 = .ok (.aload_n 0, 1) := by decide +kernel
theorem dL_isWell_44 : decode cL_isWell 44 = .ok (.iload 7, 2) := by decide +kernel
theorem dL_isWell_46 : decode cL_isWell 46 = .ok (.iconst 5, 1) := by decide +kernel
theorem dL_isWell_47 : decode cL_isWell 47 = .ok (.invokevirtual 55, 3) := by decide +kernel
theorem dL_isWell_50 : decode cL_isWell 50 = .ok (.istore 10, 2) := by decide +kernel
theorem dL_isWell_52 : decode cL_isWell 52 = .ok (.aload_n 0, 1) := by decide +kernel
theorem dL_isWell_53 : decode cL_isWell 53 = .ok (.iload 7, 2) := by decide +kernel
theorem dL_isWell_55 : decode cL_isWell 55 = .ok (.bipush 7, 2) := by decide +kernel
theorem dL_isWell_57 : decode cL_isWell 57 = .ok (.invokevirtual 55, 3) := by decide +kernel
theorem dL_isWell_60 : decode cL_isWell 60 = .ok (.istore 11, 2) := by decide +kernel
theorem dL_isWell_62 : decode cL_isWell 62 = .ok (.aload_n 0, 1) := by decide +kernel
theorem dL_isWell_63 : decode cL_isWell 63 = .ok (.iload 7, 2) := by decide +kernel
theorem dL_isWell_65 : decode cL_isWell 65 = .ok (.iconst 2, 1) := by decide +kernel
theorem dL_isWell_66 : decode cL_isWell 66 = .ok (.invokevirtual 55, 3) := by decide +kernel
theorem dL_isWell_69 : decode cL_isWell 69 = .ok (.istore 12, 2) := by decide +kernel
theorem dL_isWell_71 : decode cL_isWell 71 = .ok (.iload_n 1, 1) := by decide +kernel
theorem dL_isWell_72 : decode cL_isWell 72 = .ok (.iload 9, 2) := by decide +kernel
theorem dL_isWell_74 : decode cL_isWell 74 = .ok (.iadd, 1) := by decide +kernel
theorem dL_isWell_75 : decode cL_isWell 75 = .ok (.istore_n 1, 1) := by decide +kernel
theorem dL_isWell_76 : decode cL_isWell 76 = .ok (.iload_n 2, 1) := by decide +kernel
theorem dL_isWell_77 : decode cL_isWell 77 = .ok (.aload_n 0, 1) := by decide +kernel
theorem dL_isWell_78 : decode cL_isWell 78 = .ok (.iload 7, 2) := by decide +kernel
theorem dL_isWell_80 : decode cL_isWell 80 = .ok (.bipush 6, 2) := by decide +kernel
theorem dL_isWell_82 : decode cL_isWell 82 = .ok (.invokevirtual 55, 3) := by decide +kernel
theorem dL_isWell_85 : decode cL_isWell 85 = .ok (.iadd, 1) := by decide +kernel
theorem dL_isWell_86 : decode cL_isWell 86 = .ok (.istore_n 2, 1) := by decide +kernel
theorem dL_isWell_87 : decode cL_isWell 87 = .ok (.iload_n 3, 1) := by decide +kernel
theorem dL_isWell_88 : decode cL_isWell 88 = .ok (.iload 11, 2) := by decide +kernel
theorem dL_isWell_90 : decode cL_isWell 90 = .ok (.iadd, 1) := by decide +kernel
theorem dL_isWell_91 : decode cL_isWell 91 = .ok (.istore_n 3, 1) := by decide +kernel
theorem dL_isWell_92 : decode cL_isWell 92 = .ok (.iload 4, 2) := by decide +kernel
theorem dL_isWell_94 : decode cL_isWell 94 = .ok (.iload 9, 2) := by decide +kernel
theorem dL_isWell_96 : decode cL_isWell 96 = .ok (.iload 8, 2) := by decide +kernel
theorem dL_isWell_98 : decode cL_isWell 98 = .ok (.if_icmp .ne 7, 3) := by decide +kernel
theorem dL_isWell_101 : decode cL_isWell 101 = .ok (.iconst 0, 1) := by decide +kernel
theorem dL_isWell_102 : decode cL_isWell 102 = .ok (.goto 4, 3) := by decide +kernel
theorem dL_isWell_105 : decode cL_isWell 105 = .ok (.iconst 1, 1) := by decide +kernel
theorem dL_isWell_106 : decode cL_isWell 106 = .ok (.iadd, 1) := by decide +kernel
theorem dL_isWell_107 : decode cL_isWell 107 = .ok (.istore 4, 2) := by decide +kernel
theorem dL_isWell_109 : decode cL_isWell 109 = .ok (.iload 6, 2) := by decide +kernel
theorem dL_isWell_111 : decode cL_isWell 111 = .ok (.ifCond .eq 110, 3) := by decide +kernel
theorem dL_isWell_114 : decode cL_isWell 114 = .ok (.iload 9, 2) := by decide +kernel
theorem dL_isWell_116 : decode cL_isWell 116 = .ok (.iload 8, 2) := by decide +kernel
theorem dL_isWell_118 : decode cL_isWell 118 = .ok (.if_icmp .eq 58, 3) := by decide +kernel
theorem dL_isWell_121 : decode cL_isWell 121 = .ok (.iload 9, 2) := by decide +kernel
theorem dL_isWell_123 : decode cL_isWell 123 = .ok (.bipush 16, 2) := by decide +kernel
theorem dL_isWell_125 : decode cL_isWell 125 = .ok (.if_icmp .ne 96, 3) := by decide +kernel
theorem dL_isWell_128 : decode cL_isWell 128 = .ok (.iload 8, 2) := by decide +kernel
theorem dL_isWell_130 : decode cL_isWell 130 = .ok (.bipush 16, 2) := by decide +kernel
theorem dL_isWell_132 : decode cL_isWell 132 = .ok (.if_icmp .ge 89, 3) := by decide +kernel
theorem dL_isWell_135 : decode cL_isWell 135 = .ok (.aload_n 0, 1) := by decide +kernel
theorem dL_isWell_136 : decode cL_isWell 136 = .ok (.iconst 5, 1) := by decide +kernel
theorem dL_isWell_137 : decode cL_isWell 137 = .ok (.invokevirtual 25, 3) := by decide +kernel
theorem dL_isWell_140 : decode cL_isWell 140 = .ok (.iconst 1, 1) := by decide +kernel
theorem dL_isWell_141 : decode cL_isWell 141 = .ok (.if_icmp .ne 80, 3) := by decide +kernel
theorem dL_isWell_144 : decode cL_isWell 144 = .ok (.iload 7, 2) := by decide +kernel
theorem dL_isWell_146 : decode cL_isWell 146 = .ok (.bipush 7, 2) := by decide +kernel
theorem dL_isWell_148 : decode cL_isWell 148 = .ok (.if_icmp .le 73, 3) := by decide +kernel
theorem dL_isWell_151 : decode cL_isWell 151 = .ok (.iload 7, 2) := by decide +kernel
theorem dL_isWell_153 : decode cL_isWell 153 = .ok (.bipush 40, 2) := by decide +kernel
theorem dL_isWell_155 : decode cL_isWell 155 = .ok (.if_icmp .ge 66, 3) := by decide +kernel
theorem dL_isWell_158 : decode cL_isWell 158 = .ok (.iload 7, 2) := by decide +kernel
theorem dL_isWell_160 : decode cL_isWell 160 = .ok (.bipush 8, 2) := by decide +kernel
theorem dL_isWell_162 : decode cL_isWell 162 = .ok (.irem, 1) := by decide +kernel
theorem dL_isWell_163 : decode cL_isWell 163 = .ok (.ifCond .le 58, 3) := by decide +kernel
theorem dL_isWell_166 : decode cL_isWell 166 = .ok (.iload 7, 2) := by decide +kernel
theorem dL_isWell_168 : decode cL_isWell 168 = .ok (.bipush 8, 2) := by decide +kernel
theorem dL_isWell_170 : decode cL_isWell 170 = .ok (.irem, 1) := by decide +kernel
theorem dL_isWell_171 : decode cL_isWell 171 = .ok (.bipush 7, 2) := by decide +kernel
theorem dL_isWell_173 : decode cL_isWell 173 = .ok (.if_icmp .ge 48, 3) := by decide +kernel
theorem dL_isWell_176 : decode cL_isWell 176 = .ok (.iload 11, 2) := by decide +kernel
theorem dL_isWell_178 : decode cL_isWell 178 = .ok (.ifCond .lt 43, 3) := by decide +kernel
theorem dL_isWell_181 : decode cL_isWell 181 = .ok (.iload 11, 2) := by decide +kernel
theorem dL_isWell_183 : decode cL_isWell 183 = .ok (.aload_n 0, 1) := by decide +kernel
theorem dL_isWell_184 : decode cL_isWell 184 = .ok (.iload 7, 2) := by decide +kernel
theorem dL_isWell_186 : decode cL_isWell 186 = .ok (.bipush 6, 2) := by decide +kernel
theorem dL_isWell_188 : decode cL_isWell 188 = .ok (.invokevirtual 55, 3) := by decide +kernel
theorem dL_isWell_191 : decode cL_isWell 191 = .ok (.if_icmp .gt 30, 3) := by decide +kernel
theorem dL_isWell_194 : decode cL_isWell 194 = .ok (.aload_n 0, 1) := by decide +kernel
theorem dL_isWell_195 : decode cL_isWell 195 = .ok (.iload 7, 2) := by decide +kernel
theorem dL_isWell_197 : decode cL_isWell 197 = .ok (.bipush 8, 2) := by decide +kernel
theorem dL_isWell_199 : decode cL_isWell 199 = .ok (.idiv, 1) := by decide +kernel
theorem dL_isWell_200 : decode cL_isWell 200 = .ok (.iload 10, 2) := by decide +kernel
theorem dL_isWell_202 : decode cL_isWell 202 = .ok (.invokevirtual 91, 3) := by decide +kernel
theorem dL_isWell_205 : decode cL_isWell 205 = .ok (.iload 7, 2) := by decide +kernel
theorem dL_isWell_207 : decode cL_isWell 207 = .ok (.bipush 8, 2) := by decide +kernel
theorem dL_isWell_209 : decode cL_isWell 209 = .ok (.irem, 1) := by decide +kernel
theorem dL_isWell_210 : decode cL_isWell 210 = .ok (.ishr, 1) := by decide +kernel
theorem dL_isWell_211 : decode cL_isWell 211 = .ok (.iconst 1, 1) := by decide +kernel
theorem dL_isWell_212 : decode cL_isWell 212 = .ok (.iand, 1) := by decide +kernel
theorem dL_isWell_213 : decode cL_isWell 213 = .ok (.iconst 1, 1) := by decide +kernel
theorem dL_isWell_214 : decode cL_isWell 214 = .ok (.if_icmp .ne 7, 3) := by decide +kernel
theorem dL_isWell_217 : decode cL_isWell 217 = .ok (.iconst 1, 1) := by decide +kernel
theorem dL_isWell_218 : decode cL_isWell 218 = .ok (.goto 4, 3) := by decide +kernel
theorem dL_isWell_221 : decode cL_isWell 221 = .ok (.iconst 0, 1) := by decide +kernel
theorem dL_isWell_222 : decode cL_isWell 222 = .ok (.istore 6, 2) := by decide +kernel
theorem dL_isWell_224 : decode cL_isWell 224 = .ok (.iload 6, 2) := by decide +kernel
theorem dL_isWell_226 : decode cL_isWell 226 = .ok (.ifCond .eq 129, 3) := by decide +kernel
theorem dL_isWell_229 : decode cL_isWell 229 = .ok (.iload 12, 2) := by decide +kernel
theorem dL_isWell_231 : decode cL_isWell 231 = .ok (.aload_n 0, 1) := by decide +kernel
theorem dL_isWell_232 : decode cL_isWell 232 = .ok (.iconst 0, 1) := by decide +kernel
theorem dL_isWell_233 : decode cL_isWell 233 = .ok (.invokevirtual 25, 3) := by decide +kernel
theorem dL_isWell_236 : decode cL_isWell 236 = .ok (.if_icmp .gt 11, 3) := by decide +kernel
theorem dL_isWell_239 : decode cL_isWell 239 = .ok (.iload 8, 2) := by decide +kernel
theorem dL_isWell_241 : decode cL_isWell 241 = .ok (.ifCond .ne 114, 3) := by decide +kernel
theorem dL_isWell_244 : decode cL_isWell 244 = .ok (.goto 35, 3) := by decide +kernel
theorem dL_isWell_247 : decode cL_isWell 247 = .ok (.iload 12, 2) := by decide +kernel
theorem dL_isWell_249 : decode cL_isWell 249 = .ok (.aload_n 0, 1) := by decide +kernel
theorem dL_isWell_250 : decode cL_isWell 250 = .ok (.iconst 1, 1) := by decide +kernel
theorem dL_isWell_251 : decode cL_isWell 251 = .ok (.invokevirtual 25, 3) := by decide +kernel
theorem dL_isWell_254 : decode cL_isWell 254 = .ok (.if_icmp .lt 13, 3) := by decide +kernel
theorem dL_isWell_257 : decode cL_isWell 257 = .ok (.iload 8, 2) := by decide +kernel
theorem dL_isWell_259 : decode cL_isWell 259 = .ok (.bipush 16, 2) := by decide +kernel
theorem dL_isWell_261 : decode cL_isWell 261 = .ok (.if_icmp .ne 94, 3) := by decide +kernel
theorem dL_isWell_264 : decode cL_isWell 264 = .ok (.goto 15, 3) := by decide +kernel
theorem dL_isWell_267 : decode cL_isWell 267 = .ok (.iload 8, 2) := by decide +kernel
theorem dL_isWell_269 : decode cL_isWell 269 = .ok (.ifCond .lt 86, 3) := by decide +kernel
theorem dL_isWell_272 : decode cL_isWell 272 = .ok (.iload 8, 2) := by decide +kernel
theorem dL_isWell_274 : decode cL_isWell 274 = .ok (.bipush 16, 2) := by decide +kernel
theorem dL_isWell_276 : decode cL_isWell 276 = .ok (.if_icmp .ge 79, 3) := by decide +kernel
theorem dL_isWell_279 : decode cL_isWell 279 = .ok (.iload 9, 2) := by decide +kernel
theorem dL_isWell_281 : decode cL_isWell 281 = .ok (.ifCond .gt 21, 3) := by decide +kernel
theorem dL_isWell_284 : decode cL_isWell 284 = .ok (.aload_n 0, 1) := by decide +kernel
theorem dL_isWell_285 : decode cL_isWell 285 = .ok (.iload 7, 2) := by decide +kernel
theorem dL_isWell_287 : decode cL_isWell 287 = .ok (.bipush 9, 2) := by decide +kernel
theorem dL_isWell_289 : decode cL_isWell 289 = .ok (.invokevirtual 55, 3) := by decide +kernel
theorem dL_isWell_292 : decode cL_isWell 292 = .ok (.aload_n 0, 1) := by decide +kernel
theorem dL_isWell_293 : decode cL_isWell 293 = .ok (.iload 7, 2) := by decide +kernel
theorem dL_isWell_295 : decode cL_isWell 295 = .ok (.iconst 1, 1) := by decide +kernel
theorem dL_isWell_296 : decode cL_isWell 296 = .ok (.invokevirtual 55, 3) := by decide +kernel
theorem dL_isWell_299 : decode cL_isWell 299 = .ok (.if_icmp .ne 56, 3) := by decide +kernel
theorem dL_isWell_302 : decode cL_isWell 302 = .ok (.iload 9, 2) := by decide +kernel
theorem dL_isWell_304 : decode cL_isWell 304 = .ok (.bipush 16, 2) := by decide +kernel
theorem dL_isWell_306 : decode cL_isWell 306 = .ok (.if_icmp .lt 22, 3) := by decide +kernel
theorem dL_isWell_309 : decode cL_isWell 309 = .ok (.aload_n 0, 1) := by decide +kernel
theorem dL_isWell_310 : decode cL_isWell 310 = .ok (.iload 7, 2) := by decide +kernel
theorem dL_isWell_312 : decode cL_isWell 312 = .ok (.bipush 9, 2) := by decide +kernel
theorem dL_isWell_314 : decode cL_isWell 314 = .ok (.invokevirtual 55, 3) := by decide +kernel
theorem dL_isWell_317 : decode cL_isWell 317 = .ok (.aload_n 0, 1) := by decide +kernel
theorem dL_isWell_318 : decode cL_isWell 318 = .ok (.iload 7, 2) := by decide +kernel
theorem dL_isWell_320 : decode cL_isWell 320 = .ok (.bipush 8, 2) := by decide +kernel
theorem dL_isWell_322 : decode cL_isWell 322 = .ok (.invokevirtual 55, 3) := by decide +kernel
theorem dL_isWell_325 : decode cL_isWell 325 = .ok (.if_icmp .ne 30, 3) := by decide +kernel
theorem dL_isWell_328 : decode cL_isWell 328 = .ok (.iload 11, 2) := by decide +kernel
theorem dL_isWell_330 : decode cL_isWell 330 = .ok (.ifCond .gt 21, 3) := by decide +kernel
theorem dL_isWell_333 : decode cL_isWell 333 = .ok (.aload_n 0, 1) := by decide +kernel
theorem dL_isWell_334 : decode cL_isWell 334 = .ok (.iload 7, 2) := by decide +kernel
theorem dL_isWell_336 : decode cL_isWell 336 = .ok (.bipush 8, 2) := by decide +kernel
theorem dL_isWell_338 : decode cL_isWell 338 = .ok (.invokevirtual 55, 3) := by decide +kernel
theorem dL_isWell_341 : decode cL_isWell 341 = .ok (.aload_n 0, 1) := by decide +kernel
theorem dL_isWell_342 : decode cL_isWell 342 = .ok (.iload 7, 2) := by decide +kernel
theorem dL_isWell_344 : decode cL_isWell 344 = .ok (.iconst 0, 1) := by decide +kernel
theorem dL_isWell_345 : decode cL_isWell 345 = .ok (.invokevirtual 55, 3) := by decide +kernel
theorem dL_isWell_348 : decode cL_isWell 348 = .ok (.if_icmp .ne 7, 3) := by decide +kernel
theorem dL_isWell_351 : decode cL_isWell 351 = .ok (.iconst 1, 1) := by decide +kernel
theorem dL_isWell_352 : decode cL_isWell 352 = .ok (.goto 4, 3) := by decide +kernel
theorem dL_isWell_355 : decode cL_isWell 355 = .ok (.iconst 0, 1) := by decide +kernel
theorem dL_isWell_356 : decode cL_isWell 356 = .ok (.istore 6, 2) := by decide +kernel
theorem dL_isWell_358 : decode cL_isWell 358 = .ok (.iload 6, 2) := by decide +kernel
theorem dL_isWell_360 : decode cL_isWell 360 = .ok (.ifCond .eq 65, 3) := by decide +kernel
theorem dL_isWell_363 : decode cL_isWell 363 = .ok (.iload 10, 2) := by decide +kernel
theorem dL_isWell_365 : decode cL_isWell 365 = .ok (.iconst 4, 1) := by decide +kernel
theorem dL_isWell_366 : decode cL_isWell 366 = .ok (.if_icmp .eq 55, 3) := by decide +kernel
theorem dL_isWell_369 : decode cL_isWell 369 = .ok (.iload 10, 2) := by decide +kernel
theorem dL_isWell_371 : decode cL_isWell 371 = .ok (.ifCond .ne 13, 3) := by decide +kernel
theorem dL_isWell_374 : decode cL_isWell 374 = .ok (.iload 9, 2) := by decide +kernel
theorem dL_isWell_376 : decode cL_isWell 376 = .ok (.ifCond .ne 8, 3) := by decide +kernel
theorem dL_isWell_379 : decode cL_isWell 379 = .ok (.iload 11, 2) := by decide +kernel
theorem dL_isWell_381 : decode cL_isWell 381 = .ok (.ifCond .eq 40, 3) := by decide +kernel
theorem dL_isWell_384 : decode cL_isWell 384 = .ok (.iload 10, 2) := by decide +kernel
theorem dL_isWell_386 : decode cL_isWell 386 = .ok (.iconst 3, 1) := by decide +kernel
theorem dL_isWell_387 : decode cL_isWell 387 = .ok (.if_icmp .ne 10, 3) := by decide +kernel
theorem dL_isWell_390 : decode cL_isWell 390 = .ok (.iload 9, 2) := by decide +kernel
theorem dL_isWell_392 : decode cL_isWell 392 = .ok (.bipush 16, 2) := by decide +kernel
theorem dL_isWell_394 : decode cL_isWell 394 = .ok (.if_icmp .eq 27, 3) := by decide +kernel
theorem dL_isWell_397 : decode cL_isWell 397 = .ok (.iload 10, 2) := by decide +kernel
theorem dL_isWell_399 : decode cL_isWell 399 = .ok (.iconst 1, 1) := by decide +kernel
theorem dL_isWell_400 : decode cL_isWell 400 = .ok (.if_icmp .eq 9, 3) := by decide +kernel
theorem dL_isWell_403 : decode cL_isWell 403 = .ok (.iload 10, 2) := by decide +kernel
theorem dL_isWell_405 : decode cL_isWell 405 = .ok (.iconst 2, 1) := by decide +kernel
theorem dL_isWell_406 : decode cL_isWell 406 = .ok (.if_icmp .ne 19, 3) := by decide +kernel
theorem dL_isWell_409 : decode cL_isWell 409 = .ok (.iload 9, 2) := by decide +kernel
theorem dL_isWell_411 : decode cL_isWell 411 = .ok (.ifCond .le 14, 3) := by decide +kernel
theorem dL_isWell_414 : decode cL_isWell 414 = .ok (.iload 9, 2) := by decide +kernel
theorem dL_isWell_416 : decode cL_isWell 416 = .ok (.bipush 16, 2) := by decide +kernel
theorem dL_isWell_418 : decode cL_isWell 418 = .ok (.if_icmp .ge 7, 3) := by decide +kernel
theorem dL_isWell_421 : decode cL_isWell 421 = .ok (.iconst 1, 1) := by decide +kernel
theorem dL_isWell_422 : decode cL_isWell 422 = .ok (.goto 4, 3) := by decide +kernel
theorem dL_isWell_425 : decode cL_isWell 425 = .ok (.iconst 0, 1) := by decide +kernel
theorem dL_isWell_426 : decode cL_isWell 426 = .ok (.istore 6, 2) := by decide +kernel
theorem dL_isWell_428 : decode cL_isWell 428 = .ok (.iinc 7 1, 3) := by decide +kernel
theorem dL_isWell_431 : decode cL_isWell 431 = .ok (.goto (-413), 3) := by decide +kernel
theorem dL_isWell_434 : decode cL_isWell 434 = .ok (.iconst 0, 1) := by decide +kernel
theorem dL_isWell_435 : decode cL_isWell 435 = .ok (.istore 7, 2) := by decide +kernel
theorem dL_isWell_437 : decode cL_isWell 437 = .ok (.iload 7, 2) := by decide +kernel
theorem dL_isWell_439 : decode cL_isWell 439 = .ok (.iconst 5, 1) := by decide +kernel
theorem dL_isWell_440 : decode cL_isWell 440 = .ok (.if_icmp .ge 23, 3) := by decide +kernel
theorem dL_isWell_443 : decode cL_isWell 443 = .ok (.iload 5, 2) := by decide +kernel
theorem dL_isWell_445 : decode cL_isWell 445 = .ok (.aload_n 0, 1) := by decide +kernel
theorem dL_isWell_446 : decode cL_isWell 446 = .ok (.bipush 7, 2) := by decide +kernel
theorem dL_isWell_448 : decode cL_isWell 448 = .ok (.iload 7, 2) := by decide +kernel
theorem dL_isWell_450 : decode cL_isWell 450 = .ok (.iadd, 1) := by decide +kernel
theorem dL_isWell_451 : decode cL_isWell 451 = .ok (.invokevirtual 25, 3) := by decide +kernel
theorem dL_isWell_454 : decode cL_isWell 454 = .ok (.iadd, 1) := by decide +kernel
theorem dL_isWell_455 : decode cL_isWell 455 = .ok (.istore 5, 2) := by decide +kernel
theorem dL_isWell_457 : decode cL_isWell 457 = .ok (.iinc 7 1, 3) := by decide +kernel
theorem dL_isWell_460 : decode cL_isWell 460 = .ok (.goto (-23), 3) := by decide +kernel
theorem dL_isWell_463 : decode cL_isWell 463 = .ok (.iload 6, 2) := by decide +kernel
theorem dL_isWell_465 : decode cL_isWell 465 = .ok (.ifCond .eq 83, 3) := by decide +kernel
theorem dL_isWell_468 : decode cL_isWell 468 = .ok (.iload_n 1, 1) := by decide +kernel
theorem dL_isWell_469 : decode cL_isWell 469 = .ok (.aload_n 0, 1) := by decide +kernel
theorem dL_isWell_470 : decode cL_isWell 470 = .ok (.bipush 12, 2) := by decide +kernel
theorem dL_isWell_472 : decode cL_isWell 472 = .ok (.invokevirtual 25, 3) := by decide +kernel
theorem dL_isWell_475 : decode cL_isWell 475 = .ok (.if_icmp .ne 73, 3) := by decide +kernel
theorem dL_isWell_478 : decode cL_isWell 478 = .ok (.iload_n 2, 1) := by decide +kernel
theorem dL_isWell_479 : decode cL_isWell 479 = .ok (.aload_n 0, 1) := by decide +kernel
theorem dL_isWell_480 : decode cL_isWell 480 = .ok (.bipush 13, 2) := by decide +kernel
theorem dL_isWell_482 : decode cL_isWell 482 = .ok (.invokevirtual 25, 3) := by decide +kernel
theorem dL_isWell_485 : decode cL_isWell 485 = .ok (.if_icmp .ne 63, 3) := by decide +kernel
theorem dL_isWell_488 : decode cL_isWell 488 = .ok (.iload_n 3, 1) := by decide +kernel
theorem dL_isWell_489 : decode cL_isWell 489 = .ok (.aload_n 0, 1) := by decide +kernel
theorem dL_isWell_490 : decode cL_isWell 490 = .ok (.bipush 14, 2) := by decide +kernel
theorem dL_isWell_492 : decode cL_isWell 492 = .ok (.invokevirtual 25, 3) := by decide +kernel
theorem dL_isWell_495 : decode cL_isWell 495 = .ok (.if_icmp .ne 53, 3) := by decide +kernel
theorem dL_isWell_498 : decode cL_isWell 498 = .ok (.iload 4, 2) := by decide +kernel
theorem dL_isWell_500 : decode cL_isWell 500 = .ok (.aload_n 0, 1) := by decide +kernel
theorem dL_isWell_501 : decode cL_isWell 501 = .ok (.bipush 15, 2) := by decide +kernel
theorem dL_isWell_503 : decode cL_isWell 503 = .ok (.invokevirtual 25, 3) := by decide +kernel
theorem dL_isWell_506 : decode cL_isWell 506 = .ok (.if_icmp .ne 42, 3) := by decide +kernel
theorem dL_isWell_509 : decode cL_isWell 509 = .ok (.iload 5, 2) := by decide +kernel
theorem dL_isWell_511 : decode cL_isWell 511 = .ok (.bipush 48, 2) := by decide +kernel
theorem dL_isWell_513 : decode cL_isWell 513 = .ok (.if_icmp .ne 35, 3) := by decide +kernel
theorem dL_isWell_516 : decode cL_isWell 516 = .ok (.aload_n 0, 1) := by decide +kernel
theorem dL_isWell_517 : decode cL_isWell 517 = .ok (.bipush 11, 2) := by decide +kernel
theorem dL_isWell_519 : decode cL_isWell 519 = .ok (.invokevirtual 25, 3) := by decide +kernel
theorem dL_isWell_522 : decode cL_isWell 522 = .ok (.aload_n 0, 1) := by decide +kernel
theorem dL_isWell_523 : decode cL_isWell 523 = .ok (.bipush 18, 2) := by decide +kernel
theorem dL_isWell_525 : decode cL_isWell 525 = .ok (.invokevirtual 25, 3) := by decide +kernel
theorem dL_isWell_528 : decode cL_isWell 528 = .ok (.if_icmp .ne 20, 3) := by decide +kernel
theorem dL_isWell_531 : decode cL_isWell 531 = .ok (.aload_n 0, 1) := by decide +kernel
theorem dL_isWell_532 : decode cL_isWell 532 = .ok (.iconst 0, 1) := by decide +kernel
theorem dL_isWell_533 : decode cL_isWell 533 = .ok (.invokevirtual 25, 3) := by decide +kernel
theorem dL_isWell_536 : decode cL_isWell 536 = .ok (.aload_n 0, 1) := by decide +kernel
theorem dL_isWell_537 : decode cL_isWell 537 = .ok (.iconst 1, 1) := by decide +kernel
theorem dL_isWell_538 : decode cL_isWell 538 = .ok (.invokevirtual 25, 3) := by decide +kernel
theorem dL_isWell_541 : decode cL_isWell 541 = .ok (.if_icmp .ge 7, 3) := by decide +kernel
theorem dL_isWell_544 : decode cL_isWell 544 = .ok (.iconst 1, 1) := by decide +kernel
theorem dL_isWell_545 : decode cL_isWell 545 = .ok (.goto 4, 3) := by decide +kernel
theorem dL_isWell_548 : decode cL_isWell 548 = .ok (.iconst 0, 1) := by decide +kernel
theorem dL_isWell_549 : decode cL_isWell 549 = .ok (.ireturn, 1) := by decide +kernel
set_option maxRecDepth 20000 in
theorem ggL_law_X4_init : GoodIn wsL_law wsX4_init := goodIn_r _ [5, 6, 7, 8, 9, 10, 11, 12, 13, 14, 15, 16, 17, 18, 19, 20, 21, 22, 23, 24, 25, 26, 27, 28, 29, 30, 31, 32, 33, 34, 35, 36, 37, 38, 39, 40, 41, 42, 43, 44, 45, 46, 47, 48, 49, 50, 51, 52, 53, 54, 55, 56, 57, 58, 59, 60, 61, 62, 63, 64, 65, 66, 67, 68, 69, 369, 370, 371, 372, 373, 362, 363, 364, 365, 366, 367, 368, 374, 375, 376, 377, 378, 379, 380, 381, 382, 383, 384, 385, 386, 387, 388] (by decide +kernel) (by decide +kernel)
set_option maxRecDepth 20000 in
theorem gL_law_X4_init : GoodIn wsL_law (wsX4_init) := ggL_law_X4_init
set_option maxRecDepth 20000 in
theorem ggL_law_L_cell : GoodIn wsL_law wsL_cell := goodIn_r _ [73, 74] (by decide +kernel) (by decide +kernel)
set_option maxRecDepth 20000 in
theorem gL_law_L_cell : GoodIn wsL_law (va_wsS RL 95 yL_cell wsL_cell) := goodIn_app (goodIn_of _ (by decide +kernel)) ggL_law_L_cell
set_option maxRecDepth 20000 in
theorem ggL_law_L_isStep : GoodIn wsL_law wsL_isStep := goodIn_r _ [77, 78, 79, 72, 80, 81, 82, 83, 84, 2, 85, 12, 86, 17, 87, 88, 89, 90, 91, 92, 93, 22, 94, 26, 95, 96, 97, 98, 16, 99, 100, 101, 102, 103, 104, 46, 47, 105, 106, 107, 11, 108, 34, 38, 109, 110, 111, 112, 113, 114, 115, 116, 117, 118, 119, 120, 121, 122, 123, 124, 125, 126, 127, 128, 129, 53, 130, 131, 132, 133, 55, 54, 134, 135, 136, 137, 138, 139, 140, 141, 142, 143, 144, 145, 48, 146, 147, 148, 149, 150, 151, 152, 153, 154, 155, 156, 157, 158, 159, 49, 160, 50, 51, 52, 161, 162, 163, 164, 165, 166, 167, 168, 169, 170, 171, 172, 173, 174, 175, 176, 177, 178, 179, 180, 181, 182, 183, 184, 185, 186, 187, 188, 189, 190, 191, 37, 192, 193, 194, 195, 13, 18, 196, 197, 198, 199, 200, 201, 202, 203, 204, 205, 206, 207, 33, 39, 40, 41, 42, 35, 208, 209, 210, 211, 212, 213, 214, 215, 216, 217, 218, 25, 219, 66, 67, 68, 220, 221, 222, 223, 224, 225, 226, 227, 228, 229, 230, 231, 232, 233, 234, 235, 236, 237, 238, 239, 240, 241, 242, 243, 244, 245, 246, 247, 248, 249, 250, 251, 252, 253, 254, 255, 256, 257, 258, 259, 260, 261, 262, 263, 264, 265, 266, 267, 268, 269, 270, 271, 272, 273, 274, 275, 276, 277, 278, 279, 280, 281, 282, 283, 284, 285, 21, 286, 60, 59, 287, 288, 289, 290, 291, 292, 293, 294, 295, 296, 297, 298, 299, 300, 301, 302, 303, 304, 305, 306, 307, 308, 309, 310, 311, 312, 313, 314, 315, 316, 317, 318, 319, 320, 27, 9, 10, 321, 322, 323, 28, 29, 30, 31, 7, 8, 32, 36, 324, 325, 326, 327, 328, 329, 330, 331, 362, 363, 364, 365, 366, 367, 368, 369, 370, 371, 372, 373, 374, 375, 376, 377, 378, 379, 380, 381, 382, 383, 384, 385, 386, 387, 388] (by decide +kernel) (by decide +kernel)
set_option maxRecDepth 20000 in
theorem gL_law_L_isStep : GoodIn wsL_law (va_wsS RL 99 yL_isStep wsL_isStep) := goodIn_app (goodIn_of _ (by decide +kernel)) ggL_law_L_isStep
set_option maxRecDepth 20000 in
theorem ggL_law_L_isWell : GoodIn wsL_law wsL_isWell := goodIn_r _ [334, 250, 251, 252, 2, 253, 17, 12, 93, 92, 254, 88, 255, 89, 90, 256, 91, 236, 109, 110, 96, 97, 98, 16, 99, 100, 101, 102, 103, 104, 46, 47, 105, 106, 107, 11, 108, 34, 38, 111, 112, 113, 114, 115, 116, 117, 118, 119, 120, 121, 122, 123, 124, 125, 126, 127, 128, 129, 53, 130, 131, 132, 133, 55, 54, 134, 135, 136, 137, 138, 139, 140, 141, 142, 143, 144, 145, 48, 146, 147, 148, 149, 150, 151, 152, 153, 154, 155, 156, 157, 158, 159, 49, 160, 50, 51, 52, 161, 162, 163, 164, 165, 166, 167, 168, 169, 170, 171, 172, 173, 257, 82, 83, 84, 85, 86, 87, 22, 94, 26, 95, 174, 175, 176, 177, 178, 179, 180, 181, 182, 183, 184, 185, 186, 187, 188, 189, 190, 191, 37, 335, 336, 337, 338, 295, 296, 297, 362, 363, 364, 365, 366, 367, 368, 369, 370, 371, 372, 373, 374, 375, 376, 377, 378, 379, 380, 381, 382, 383, 384, 385, 386, 387, 388] (by decide +kernel) (by decide +kernel)
set_option maxRecDepth 20000 in
theorem gL_law_L_isWell : GoodIn wsL_law (va_wsS RL 103 yL_isWell wsL_isWell) := goodIn_app (goodIn_of _ (by decide +kernel)) ggL_law_L_isWell
set_option maxRecDepth 20000 in
theorem ggL_law_L_areAlike : GoodIn wsL_law wsL_areAlike := goodIn_r _ [341, 342, 343, 344, 2, 345, 13, 12, 93, 87, 18, 204, 205, 206, 11, 207, 33, 39, 40, 41, 42, 34, 35, 37, 38, 346, 347, 348, 16, 349, 47, 146, 100, 101, 102, 103, 104, 46, 105, 106, 107, 108, 109, 110, 111, 112, 113, 114, 115, 116, 117, 118, 119, 120, 121, 122, 123, 124, 125, 126, 127, 128, 129, 53, 130, 131, 132, 133, 55, 54, 134, 135, 136, 137, 138, 139, 140, 141, 82, 83, 84, 85, 86, 17, 88, 89, 90, 91, 92, 22, 94, 26, 95, 96, 97, 98, 99, 142, 143, 144, 145, 48, 147, 148, 149, 150, 151, 152, 153, 154, 155, 156, 157, 158, 159, 49, 160, 50, 51, 52, 161, 162, 163, 164, 165, 166, 167, 168, 169, 170, 171, 172, 173, 174, 175, 176, 177, 178, 179, 180, 181, 182, 183, 184, 185, 186, 187, 188, 189, 190, 191, 250, 251, 252, 253, 254, 255, 256, 236, 257, 247, 248, 72, 249, 350, 351, 352, 353, 208, 209, 210, 211, 202, 203, 354, 355, 356, 357, 78, 79, 80, 81, 192, 193, 194, 195, 196, 197, 198, 199, 200, 201, 358, 359, 360, 361, 362, 363, 364, 365, 366, 367, 368, 369, 370, 371, 372, 373, 374, 375, 376, 377, 378, 379, 380, 381, 382, 383, 384, 385, 386, 387, 388] (by decide +kernel) (by decide +kernel)
set_option maxRecDepth 20000 in
theorem gL_law_L_areAlike : GoodIn wsL_law (va_wsS RL 107 yL_areAlike wsL_areAlike) := goodIn_app (goodIn_of _ (by decide +kernel)) ggL_law_L_areAlike
theorem dL_law_0 : decode cL_law 0 = .ok (.new 10, 3) := by decide +kernel
theorem dL_law_3 : decode cL_law 3 = .ok (.dup, 1) := by decide +kernel
theorem dL_law_4 : decode cL_law 4 = .ok (.invokespecial 94, 3) := by decide +kernel
theorem dL_law_7 : decode cL_law 7 = .ok (.astore_n 1, 1) := by decide +kernel
theorem dL_law_8 : decode cL_law 8 = .ok (.new 10, 3) := by decide +kernel
theorem dL_law_11 : decode cL_law 11 = .ok (.dup, 1) := by decide +kernel
theorem dL_law_12 : decode cL_law 12 = .ok (.invokespecial 94, 3) := by decide +kernel
theorem dL_law_15 : decode cL_law 15 = .ok (.astore_n 2, 1) := by decide +kernel
theorem dL_law_16 : decode cL_law 16 = .ok (.iconst 1, 1) := by decide +kernel
theorem dL_law_17 : decode cL_law 17 = .ok (.istore_n 3, 1) := by decide +kernel
theorem dL_law_18 : decode cL_law 18 = .ok (.iconst 0, 1) := by decide +kernel
theorem dL_law_19 : decode cL_law 19 = .ok (.istore 4, 2) := by decide +kernel
theorem dL_law_21 : decode cL_law 21 = .ok (.iload 4, 2) := by decide +kernel
theorem dL_law_23 : decode cL_law 23 = .ok (.bipush 40, 2) := by decide +kernel
theorem dL_law_25 : decode cL_law 25 = .ok (.if_icmp .ge 57, 3) := by decide +kernel
theorem dL_law_28 : decode cL_law 28 = .ok (.iload_n 3, 1) := by decide +kernel
theorem dL_law_29 : decode cL_law 29 = .ok (.ifCond .eq 53, 3) := by decide +kernel
theorem dL_law_32 : decode cL_law 32 = .ok (.aload_n 1, 1) := by decide +kernel
theorem dL_law_33 : decode cL_law 33 = .ok (.aload_n 2, 1) := by decide +kernel
theorem dL_law_34 : decode cL_law 34 = .ok (.aload_n 0, 1) := by decide +kernel
theorem dL_law_35 : decode cL_law 35 = .ok (.iload 4, 2) := by decide +kernel
theorem dL_law_37 : decode cL_law 37 = .ok (.invokestatic 95, 3) := by decide +kernel
theorem dL_law_40 : decode cL_law 40 = .ok (.aload_n 0, 1) := by decide +kernel
theorem dL_law_41 : decode cL_law 41 = .ok (.iload 4, 2) := by decide +kernel
theorem dL_law_43 : decode cL_law 43 = .ok (.iconst 1, 1) := by decide +kernel
theorem dL_law_44 : decode cL_law 44 = .ok (.iadd, 1) := by decide +kernel
theorem dL_law_45 : decode cL_law 45 = .ok (.invokestatic 95, 3) := by decide +kernel
theorem dL_law_48 : decode cL_law 48 = .ok (.iconst 2, 1) := by decide +kernel
theorem dL_law_49 : decode cL_law 49 = .ok (.ishr, 1) := by decide +kernel
theorem dL_law_50 : decode cL_law 50 = .ok (.invokestatic 99, 3) := by decide +kernel
theorem dL_law_53 : decode cL_law 53 = .ok (.ifCond .eq 21, 3) := by decide +kernel
theorem dL_law_56 : decode cL_law 56 = .ok (.iload 4, 2) := by decide +kernel
theorem dL_law_58 : decode cL_law 58 = .ok (.iconst 5, 1) := by decide +kernel
theorem dL_law_59 : decode cL_law 59 = .ok (.irem, 1) := by decide +kernel
theorem dL_law_60 : decode cL_law 60 = .ok (.ifCond .gt 10, 3) := by decide +kernel
theorem dL_law_63 : decode cL_law 63 = .ok (.aload_n 1, 1) := by decide +kernel
theorem dL_law_64 : decode cL_law 64 = .ok (.invokestatic 103, 3) := by decide +kernel
theorem dL_law_67 : decode cL_law 67 = .ok (.ifCond .eq 7, 3) := by decide +kernel
theorem dL_law_70 : decode cL_law 70 = .ok (.iconst 1, 1) := by decide +kernel
theorem dL_law_71 : decode cL_law 71 = .ok (.goto 4, 3) := by decide +kernel
theorem dL_law_74 : decode cL_law 74 = .ok (.iconst 0, 1) := by decide +kernel
theorem dL_law_75 : decode cL_law 75 = .ok (.istore_n 3, 1) := by decide +kernel
theorem dL_law_76 : decode cL_law 76 = .ok (.iinc 4 1, 3) := by decide +kernel
theorem dL_law_79 : decode cL_law 79 = .ok (.goto (-58), 3) := by decide +kernel
theorem dL_law_82 : decode cL_law 82 = .ok (.iload_n 3, 1) := by decide +kernel
theorem dL_law_83 : decode cL_law 83 = .ok (.ifCond .eq 28, 3) := by decide +kernel
theorem dL_law_86 : decode cL_law 86 = .ok (.aload_n 1, 1) := by decide +kernel
theorem dL_law_87 : decode cL_law 87 = .ok (.invokestatic 103, 3) := by decide +kernel
theorem dL_law_90 : decode cL_law 90 = .ok (.ifCond .eq 21, 3) := by decide +kernel
theorem dL_law_93 : decode cL_law 93 = .ok (.aload_n 1, 1) := by decide +kernel
theorem dL_law_94 : decode cL_law 94 = .ok (.aload_n 2, 1) := by decide +kernel
theorem dL_law_95 : decode cL_law 95 = .ok (.aload_n 0, 1) := by decide +kernel
theorem dL_law_96 : decode cL_law 96 = .ok (.bipush 40, 2) := by decide +kernel
theorem dL_law_98 : decode cL_law 98 = .ok (.invokestatic 95, 3) := by decide +kernel
theorem dL_law_101 : decode cL_law 101 = .ok (.invokestatic 107, 3) := by decide +kernel
theorem dL_law_104 : decode cL_law 104 = .ok (.ifCond .eq 7, 3) := by decide +kernel
theorem dL_law_107 : decode cL_law 107 = .ok (.iconst 1, 1) := by decide +kernel
theorem dL_law_108 : decode cL_law 108 = .ok (.goto 4, 3) := by decide +kernel
theorem dL_law_111 : decode cL_law 111 = .ok (.iconst 0, 1) := by decide +kernel
theorem dL_law_112 : decode cL_law 112 = .ok (.ireturn, 1) := by decide +kernel
abbrev vwCl : List vw_C := [(RX0, TX0, 3), (RX1, TX1, 2), (RX2, TX2, 5), (RX3, TX3, 10), (RX4, TX4, 7)]
