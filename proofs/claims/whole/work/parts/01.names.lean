-- ===== PART A: goes FIRST, ahead of the names: the tables' words, and 'selects' of the private methods out of them =====
/-- a private method of a class that the tables say can be made, by its rows of tables_1 -/
def lw_okq (q : MethodName × Nat) : Prop := (q.1.cls ≠ "java/lang/invoke/MethodHandle" ∧ q.1.cls ≠ "java/lang/invoke/VarHandle") ∧ Cond.instantiable q.1.cls q.2 ∈ tables_1 ∧ Cond.privateMethod q.1 ∈ tables_1 ∧ Cond.instanceMethod q.1 ∈ tables_1
theorem lw_p0 : lw_okq (⟨"GlassSpill", "errorOfSetting", "(II)I"⟩, 7) := ⟨⟨by decide +kernel, by decide +kernel⟩, List.mem_of_getElem? (i := 10) (by decide +kernel), List.mem_of_getElem? (i := 161) (by decide +kernel), List.mem_of_getElem? (i := 162) (by decide +kernel)⟩
theorem lw_p1 : lw_okq (⟨"GlassSpill$View", "findOpaque", "(LGlassSpill$Scene;)V"⟩, 10) := ⟨⟨by decide +kernel, by decide +kernel⟩, List.mem_of_getElem? (i := 57) (by decide +kernel), List.mem_of_getElem? (i := 252) (by decide +kernel), List.mem_of_getElem? (i := 253) (by decide +kernel)⟩
theorem lw_p2 : lw_okq (⟨"GlassSpill$View", "closeHoles", "()V"⟩, 10) := ⟨⟨by decide +kernel, by decide +kernel⟩, List.mem_of_getElem? (i := 57) (by decide +kernel), List.mem_of_getElem? (i := 276) (by decide +kernel), List.mem_of_getElem? (i := 277) (by decide +kernel)⟩
theorem lw_p3 : lw_okq (⟨"GlassSpill$View", "reachFromEdge", "()V"⟩, 10) := ⟨⟨by decide +kernel, by decide +kernel⟩, List.mem_of_getElem? (i := 57) (by decide +kernel), List.mem_of_getElem? (i := 280) (by decide +kernel), List.mem_of_getElem? (i := 281) (by decide +kernel)⟩
theorem lw_p4 : lw_okq (⟨"GlassSpill$View", "reach", "(I)V"⟩, 10) := ⟨⟨by decide +kernel, by decide +kernel⟩, List.mem_of_getElem? (i := 57) (by decide +kernel), List.mem_of_getElem? (i := 287) (by decide +kernel), List.mem_of_getElem? (i := 288) (by decide +kernel)⟩
theorem lw_p5 : lw_okq (⟨"GlassSpill$View", "findKinds", "(LGlassSpill$Scene;)V"⟩, 10) := ⟨⟨by decide +kernel, by decide +kernel⟩, List.mem_of_getElem? (i := 57) (by decide +kernel), List.mem_of_getElem? (i := 295) (by decide +kernel), List.mem_of_getElem? (i := 296) (by decide +kernel)⟩
theorem lw_p6 : lw_okq (⟨"GlassSpill$View", "unmarkedKind", "(I)I"⟩, 10) := ⟨⟨by decide +kernel, by decide +kernel⟩, List.mem_of_getElem? (i := 57) (by decide +kernel), List.mem_of_getElem? (i := 299) (by decide +kernel), List.mem_of_getElem? (i := 300) (by decide +kernel)⟩
theorem lw_p7 : lw_okq (⟨"GlassSpill$View", "isOneBeside", "(II)Z"⟩, 10) := ⟨⟨by decide +kernel, by decide +kernel⟩, List.mem_of_getElem? (i := 57) (by decide +kernel), List.mem_of_getElem? (i := 303) (by decide +kernel), List.mem_of_getElem? (i := 304) (by decide +kernel)⟩
theorem lw_p8 : lw_okq (⟨"GlassSpill$View", "compose", "(LGlassSpill$Scene;)V"⟩, 10) := ⟨⟨by decide +kernel, by decide +kernel⟩, List.mem_of_getElem? (i := 57) (by decide +kernel), List.mem_of_getElem? (i := 307) (by decide +kernel), List.mem_of_getElem? (i := 308) (by decide +kernel)⟩
theorem lw_p9 : lw_okq (⟨"GlassSpillModel", "isOrdered", "(II)Z"⟩, 17) := ⟨⟨by decide +kernel, by decide +kernel⟩, List.mem_of_getElem? (i := 416) (by decide +kernel), List.mem_of_getElem? (i := 486) (by decide +kernel), List.mem_of_getElem? (i := 487) (by decide +kernel)⟩
theorem lw_p10 : lw_okq (⟨"GlassSpillModel", "changes", "()V"⟩, 17) := ⟨⟨by decide +kernel, by decide +kernel⟩, List.mem_of_getElem? (i := 416) (by decide +kernel), List.mem_of_getElem? (i := 490) (by decide +kernel), List.mem_of_getElem? (i := 491) (by decide +kernel)⟩
theorem lw_p11 : lw_okq (⟨"GlassSpillModel", "marked", "()I"⟩, 17) := ⟨⟨by decide +kernel, by decide +kernel⟩, List.mem_of_getElem? (i := 416) (by decide +kernel), List.mem_of_getElem? (i := 524) (by decide +kernel), List.mem_of_getElem? (i := 525) (by decide +kernel)⟩
theorem lw_p12 : lw_okq (⟨"GlassSpillModel", "works", "()V"⟩, 17) := ⟨⟨by decide +kernel, by decide +kernel⟩, List.mem_of_getElem? (i := 416) (by decide +kernel), List.mem_of_getElem? (i := 532) (by decide +kernel), List.mem_of_getElem? (i := 533) (by decide +kernel)⟩
theorem lw_p13 : lw_okq (⟨"GlassSpillModel", "mainPart", "()I"⟩, 17) := ⟨⟨by decide +kernel, by decide +kernel⟩, List.mem_of_getElem? (i := 416) (by decide +kernel), List.mem_of_getElem? (i := 536) (by decide +kernel), List.mem_of_getElem? (i := 537) (by decide +kernel)⟩
theorem lw_p14 : lw_okq (⟨"GlassSpillModel", "rawOf", "(I)I"⟩, 17) := ⟨⟨by decide +kernel, by decide +kernel⟩, List.mem_of_getElem? (i := 416) (by decide +kernel), List.mem_of_getElem? (i := 549) (by decide +kernel), List.mem_of_getElem? (i := 550) (by decide +kernel)⟩
theorem lw_p15 : lw_okq (⟨"GlassSpillModel", "opens", "()V"⟩, 17) := ⟨⟨by decide +kernel, by decide +kernel⟩, List.mem_of_getElem? (i := 416) (by decide +kernel), List.mem_of_getElem? (i := 553) (by decide +kernel), List.mem_of_getElem? (i := 554) (by decide +kernel)⟩
def lw_privs_1 : List (MethodName × Nat) := [(⟨"GlassSpill", "errorOfSetting", "(II)I"⟩, 7), (⟨"GlassSpill$View", "findOpaque", "(LGlassSpill$Scene;)V"⟩, 10), (⟨"GlassSpill$View", "closeHoles", "()V"⟩, 10), (⟨"GlassSpill$View", "reachFromEdge", "()V"⟩, 10), (⟨"GlassSpill$View", "reach", "(I)V"⟩, 10), (⟨"GlassSpill$View", "findKinds", "(LGlassSpill$Scene;)V"⟩, 10), (⟨"GlassSpill$View", "unmarkedKind", "(I)I"⟩, 10), (⟨"GlassSpill$View", "isOneBeside", "(II)Z"⟩, 10), (⟨"GlassSpill$View", "compose", "(LGlassSpill$Scene;)V"⟩, 10), (⟨"GlassSpillModel", "isOrdered", "(II)Z"⟩, 17), (⟨"GlassSpillModel", "changes", "()V"⟩, 17), (⟨"GlassSpillModel", "marked", "()I"⟩, 17), (⟨"GlassSpillModel", "works", "()V"⟩, 17), (⟨"GlassSpillModel", "mainPart", "()I"⟩, 17), (⟨"GlassSpillModel", "rawOf", "(I)I"⟩, 17), (⟨"GlassSpillModel", "opens", "()V"⟩, 17)]
theorem lw_r1 : ∀ q ∈ lw_privs_1, lw_okq q := List.forall_mem_cons.mpr ⟨lw_p0, List.forall_mem_cons.mpr ⟨lw_p1, List.forall_mem_cons.mpr ⟨lw_p2, List.forall_mem_cons.mpr ⟨lw_p3, List.forall_mem_cons.mpr ⟨lw_p4, List.forall_mem_cons.mpr ⟨lw_p5, List.forall_mem_cons.mpr ⟨lw_p6, List.forall_mem_cons.mpr ⟨lw_p7, List.forall_mem_cons.mpr ⟨lw_p8, List.forall_mem_cons.mpr ⟨lw_p9, List.forall_mem_cons.mpr ⟨lw_p10, List.forall_mem_cons.mpr ⟨lw_p11, List.forall_mem_cons.mpr ⟨lw_p12, List.forall_mem_cons.mpr ⟨lw_p13, List.forall_mem_cons.mpr ⟨lw_p14, List.forall_mem_cons.mpr ⟨lw_p15, fun _ h => absurd h List.not_mem_nil⟩⟩⟩⟩⟩⟩⟩⟩⟩⟩⟩⟩⟩⟩⟩⟩
theorem lw_p16 : lw_okq (⟨"GlassSpillModel", "kindOf", "(I)I"⟩, 17) := ⟨⟨by decide +kernel, by decide +kernel⟩, List.mem_of_getElem? (i := 416) (by decide +kernel), List.mem_of_getElem? (i := 565) (by decide +kernel), List.mem_of_getElem? (i := 566) (by decide +kernel)⟩
theorem lw_p17 : lw_okq (⟨"GlassSpillModel", "isBeside", "(II)Z"⟩, 17) := ⟨⟨by decide +kernel, by decide +kernel⟩, List.mem_of_getElem? (i := 416) (by decide +kernel), List.mem_of_getElem? (i := 569) (by decide +kernel), List.mem_of_getElem? (i := 570) (by decide +kernel)⟩
theorem lw_p18 : lw_okq (⟨"GlassSpillModel", "shareOf", "(I)I"⟩, 17) := ⟨⟨by decide +kernel, by decide +kernel⟩, List.mem_of_getElem? (i := 416) (by decide +kernel), List.mem_of_getElem? (i := 579) (by decide +kernel), List.mem_of_getElem? (i := 580) (by decide +kernel)⟩
theorem lw_p19 : lw_okq (⟨"GlassSpillModel", "composes", "(II)I"⟩, 17) := ⟨⟨by decide +kernel, by decide +kernel⟩, List.mem_of_getElem? (i := 416) (by decide +kernel), List.mem_of_getElem? (i := 586) (by decide +kernel), List.mem_of_getElem? (i := 587) (by decide +kernel)⟩
theorem lw_p20 : lw_okq (⟨"GlassSpillModel", "ofKind", "(I)I"⟩, 17) := ⟨⟨by decide +kernel, by decide +kernel⟩, List.mem_of_getElem? (i := 416) (by decide +kernel), List.mem_of_getElem? (i := 600) (by decide +kernel), List.mem_of_getElem? (i := 601) (by decide +kernel)⟩
theorem lw_p21 : lw_okq (⟨"GlassSpillModel", "over", "(I)I"⟩, 17) := ⟨⟨by decide +kernel, by decide +kernel⟩, List.mem_of_getElem? (i := 416) (by decide +kernel), List.mem_of_getElem? (i := 606) (by decide +kernel), List.mem_of_getElem? (i := 607) (by decide +kernel)⟩
theorem lw_p22 : lw_okq (⟨"GlassSpillModel", "spillLeft", "()I"⟩, 17) := ⟨⟨by decide +kernel, by decide +kernel⟩, List.mem_of_getElem? (i := 416) (by decide +kernel), List.mem_of_getElem? (i := 632) (by decide +kernel), List.mem_of_getElem? (i := 633) (by decide +kernel)⟩
theorem lw_p23 : lw_okq (⟨"GlassSpillModel", "readsColour", "()Z"⟩, 17) := ⟨⟨by decide +kernel, by decide +kernel⟩, List.mem_of_getElem? (i := 416) (by decide +kernel), List.mem_of_getElem? (i := 654) (by decide +kernel), List.mem_of_getElem? (i := 655) (by decide +kernel)⟩
theorem lw_p24 : lw_okq (⟨"GlassSpillModel", "readsPart", "()I"⟩, 17) := ⟨⟨by decide +kernel, by decide +kernel⟩, List.mem_of_getElem? (i := 416) (by decide +kernel), List.mem_of_getElem? (i := 658) (by decide +kernel), List.mem_of_getElem? (i := 659) (by decide +kernel)⟩
def lw_privs_2 : List (MethodName × Nat) := [(⟨"GlassSpillModel", "kindOf", "(I)I"⟩, 17), (⟨"GlassSpillModel", "isBeside", "(II)Z"⟩, 17), (⟨"GlassSpillModel", "shareOf", "(I)I"⟩, 17), (⟨"GlassSpillModel", "composes", "(II)I"⟩, 17), (⟨"GlassSpillModel", "ofKind", "(I)I"⟩, 17), (⟨"GlassSpillModel", "over", "(I)I"⟩, 17), (⟨"GlassSpillModel", "spillLeft", "()I"⟩, 17), (⟨"GlassSpillModel", "readsColour", "()Z"⟩, 17), (⟨"GlassSpillModel", "readsPart", "()I"⟩, 17)]
theorem lw_r2 : ∀ q ∈ lw_privs_2, lw_okq q := List.forall_mem_cons.mpr ⟨lw_p16, List.forall_mem_cons.mpr ⟨lw_p17, List.forall_mem_cons.mpr ⟨lw_p18, List.forall_mem_cons.mpr ⟨lw_p19, List.forall_mem_cons.mpr ⟨lw_p20, List.forall_mem_cons.mpr ⟨lw_p21, List.forall_mem_cons.mpr ⟨lw_p22, List.forall_mem_cons.mpr ⟨lw_p23, List.forall_mem_cons.mpr ⟨lw_p24, fun _ h => absurd h List.not_mem_nil⟩⟩⟩⟩⟩⟩⟩⟩⟩
def lw_privs : List (MethodName × Nat) := lw_privs_1 ++ (lw_privs_2)
def lw_tbl : List Cond := k2_sels lw_privs ++ tables_1
theorem lw_privs_ok : ∀ q ∈ lw_privs, lw_okq q := by
  show ∀ q ∈ lw_privs_1 ++ (lw_privs_2), lw_okq q
  exact List.forall_mem_append.mpr ⟨lw_r1, lw_r2⟩
-- ===== end of PART A =====
/-! ===== BEGIN words of one list among another's, by their places ===== -/
theorem goodIn_r {big : List Cond} (ws : List Cond) (ps : List Nat) (hp : ws = ps.filterMap (fun i => big[i]?)) (h : ws.all goodWord = true) : GoodIn big ws := by
  intro w hw
  have h1 := List.all_eq_true.mp h w hw
  rw [hp] at hw
  obtain ⟨i, -, hi⟩ := List.mem_filterMap.mp hw
  have hm : w ∈ big := by first | exact List.mem_of_getElem? hi | exact List.getElem?_mem hi
  exact ⟨hm, good_of_word h1⟩
theorem goodIn_app {big a b : List Cond} (ha : GoodIn big a) (hb : GoodIn big b) : GoodIn big (a ++ b) := fun w h => (List.mem_append.mp h).elim (ha w) (hb w)
theorem goodIn_ca {big a b : List Cond} {c : Cond} (ha : GoodIn big (c :: a)) (hb : GoodIn big b) : GoodIn big (c :: (a ++ b)) := fun w h => (List.mem_cons.mp h).elim (fun e => ha w (List.mem_cons.mpr (Or.inl e))) (fun h => (List.mem_append.mp h).elim (fun h => ha w (List.mem_cons.mpr (Or.inr h))) (hb w))
theorem goodIn_sub {big ws : List Cond} (hm : ∀ w ∈ ws, w ∈ big) (h : ws.all goodWord = true) : GoodIn big ws := fun w hw => ⟨hm w hw, good_of_word (List.all_eq_true.mp h w hw)⟩
/-! ===== END ===== -/

/-! ===== BEGIN printed: names, fields, word lists, decode rows ===== -/
def RX0 : String := "GlassSpill$History"
def TX0 : u_T := fun k => match k with
  | 0 => ("GlassSpill$History", "states", "[LGlassSpill$Scene;", true)
  | 1 => ("GlassSpill$History", "oldest", "I", false)
  | _ => ("GlassSpill$History", "size", "I", false)
def tyX0 : Nat → FieldType := fun k => match k with
  | 0 => .array (.object "GlassSpill$Scene")
  | 1 => .int
  | _ => .int
abbrev wsX00 : List Cond := u_ws RX0 TX0 3
theorem nmX0 : ∀ a, a < 3 → ∀ b, b < 3 → a ≠ b → (TX0 a).2.1 ≠ (TX0 b).2.1 := by decide +kernel
theorem tyX0_ok : ∀ k, k < 3 → parseFieldDescriptor (TX0 k).2.2.1 = some (tyX0 k) := by decide +kernel
abbrev cX0_init : ByteArray := prog_2_method_1_code
def yX0_init : MethodName := ⟨RX0, "<init>", "()V"⟩
abbrev cX0_remember : ByteArray := prog_2_method_2_code
def yX0_remember : MethodName := ⟨RX0, "remember", "(LGlassSpill$Scene;)V"⟩
abbrev cX0_takeBack : ByteArray := prog_2_method_3_code
def yX0_takeBack : MethodName := ⟨RX0, "takeBack", "(LGlassSpill$Scene;)V"⟩
def RX1 : String := "GlassSpill$Pad"
def TX1 : u_T := fun k => match k with
  | 0 => ("GlassSpill$Pad", "codes", "[I", true)
  | _ => ("GlassSpill$Pad", "length", "I", false)
def tyX1 : Nat → FieldType := fun k => match k with
  | 0 => .array .int
  | _ => .int
abbrev wsX10 : List Cond := u_ws RX1 TX1 2
theorem nmX1 : ∀ a, a < 2 → ∀ b, b < 2 → a ≠ b → (TX1 a).2.1 ≠ (TX1 b).2.1 := by decide +kernel
theorem tyX1_ok : ∀ k, k < 2 → parseFieldDescriptor (TX1 k).2.2.1 = some (tyX1 k) := by decide +kernel
abbrev cX1_init : ByteArray := prog_3_method_1_code
def yX1_init : MethodName := ⟨RX1, "<init>", "()V"⟩
abbrev cX1_append : ByteArray := prog_3_method_2_code
def yX1_append : MethodName := ⟨RX1, "append", "(JI)V"⟩
abbrev cX1_firstFault : ByteArray := prog_3_method_3_code
def yX1_firstFault : MethodName := ⟨RX1, "firstFault", "()I"⟩
abbrev cX1_paintOn : ByteArray := prog_3_method_4_code
def yX1_paintOn : MethodName := ⟨RX1, "paintOn", "([II)I"⟩
abbrev cX1_partOf : ByteArray := prog_3_method_5_code
def yX1_partOf : MethodName := ⟨RX1, "partOf", "(I)I"⟩
def RX2 : String := "GlassSpill$Scene"
def TX2 : u_T := fun k => match k with
  | 0 => ("GlassSpill$Scene", "settings", "[I", true)
  | 1 => ("GlassSpill$Scene", "front", "[I", true)
  | 2 => ("GlassSpill$Scene", "back", "[I", true)
  | 3 => ("GlassSpill$Scene", "glass", "[Z", true)
  | _ => ("GlassSpill$Scene", "screenColour", "I", false)
def tyX2 : Nat → FieldType := fun k => match k with
  | 0 => .array .int
  | 1 => .array .int
  | 2 => .array .int
  | 3 => .array .boolean
  | _ => .int
abbrev wsX20 : List Cond := u_ws RX2 TX2 5
theorem nmX2 : ∀ a, a < 5 → ∀ b, b < 5 → a ≠ b → (TX2 a).2.1 ≠ (TX2 b).2.1 := by decide +kernel
theorem tyX2_ok : ∀ k, k < 5 → parseFieldDescriptor (TX2 k).2.2.1 = some (tyX2 k) := by decide +kernel
abbrev cX2_init : ByteArray := prog_4_method_1_code
def yX2_init : MethodName := ⟨RX2, "<init>", "()V"⟩
abbrev cX2_copyFrom : ByteArray := prog_4_method_2_code
def yX2_copyFrom : MethodName := ⟨RX2, "copyFrom", "(LGlassSpill$Scene;)V"⟩
abbrev cX2_changeSetting : ByteArray := prog_4_method_3_code
def yX2_changeSetting : MethodName := ⟨RX2, "changeSetting", "(II)I"⟩
abbrev cX2_picture : ByteArray := prog_4_method_4_code
def yX2_picture : MethodName := ⟨RX2, "picture", "(Z)[I"⟩
abbrev cX2_distanceOf : ByteArray := prog_4_method_5_code
def yX2_distanceOf : MethodName := ⟨RX2, "distanceOf", "(I)I"⟩
abbrev cX2_marked : ByteArray := prog_4_method_6_code
def yX2_marked : MethodName := ⟨RX2, "marked", "()I"⟩
def RX3 : String := "GlassSpill$View"
def TX3 : u_T := fun k => match k with
  | 0 => ("GlassSpill$View", "raw", "[I", true)
  | 1 => ("GlassSpill$View", "opaque", "[I", true)
  | 2 => ("GlassSpill$View", "kinds", "[I", true)
  | 3 => ("GlassSpill$View", "spill", "[I", true)
  | 4 => ("GlassSpill$View", "taken", "[I", true)
  | 5 => ("GlassSpill$View", "cleaned", "[I", true)
  | 6 => ("GlassSpill$View", "composed", "[I", true)
  | 7 => ("GlassSpill$View", "reached", "[Z", true)
  | 8 => ("GlassSpill$View", "queue", "[I", true)
  | _ => ("GlassSpill$View", "queued", "I", false)
def tyX3 : Nat → FieldType := fun k => match k with
  | 0 => .array .int
  | 1 => .array .int
  | 2 => .array .int
  | 3 => .array .int
  | 4 => .array .int
  | 5 => .array .int
  | 6 => .array .int
  | 7 => .array .boolean
  | 8 => .array .int
  | _ => .int
abbrev wsX30 : List Cond := u_ws RX3 TX3 10
theorem nmX3 : ∀ a, a < 10 → ∀ b, b < 10 → a ≠ b → (TX3 a).2.1 ≠ (TX3 b).2.1 := by decide +kernel
theorem tyX3_ok : ∀ k, k < 10 → parseFieldDescriptor (TX3 k).2.2.1 = some (tyX3 k) := by decide +kernel
abbrev cX3_init : ByteArray := prog_5_method_1_code
def yX3_init : MethodName := ⟨RX3, "<init>", "()V"⟩
abbrev cX3_show : ByteArray := prog_5_method_2_code
def yX3_show : MethodName := ⟨RX3, "show", "(LGlassSpill$Scene;)V"⟩
abbrev cX3_clearPixels : ByteArray := prog_5_method_3_code
def yX3_clearPixels : MethodName := ⟨RX3, "clearPixels", "(LGlassSpill$Scene;)I"⟩
abbrev cX3_ofKind : ByteArray := prog_5_method_4_code
def yX3_ofKind : MethodName := ⟨RX3, "ofKind", "(I)I"⟩
abbrev cX3_closed : ByteArray := prog_5_method_5_code
def yX3_closed : MethodName := ⟨RX3, "closed", "()I"⟩
abbrev cX3_spillLeft : ByteArray := prog_5_method_6_code
def yX3_spillLeft : MethodName := ⟨RX3, "spillLeft", "(LGlassSpill$Scene;)I"⟩
abbrev cX3_findOpaque : ByteArray := prog_5_method_7_code
def yX3_findOpaque : MethodName := ⟨RX3, "findOpaque", "(LGlassSpill$Scene;)V"⟩
abbrev cX3_rawOpaque : ByteArray := prog_5_method_8_code
def yX3_rawOpaque : MethodName := ⟨RX3, "rawOpaque", "(III)I"⟩
abbrev cX3_closeHoles : ByteArray := prog_5_method_9_code
def yX3_closeHoles : MethodName := ⟨RX3, "closeHoles", "()V"⟩
abbrev cX3_reachFromEdge : ByteArray := prog_5_method_10_code
def yX3_reachFromEdge : MethodName := ⟨RX3, "reachFromEdge", "()V"⟩
abbrev cX3_reach : ByteArray := prog_5_method_11_code
def yX3_reach : MethodName := ⟨RX3, "reach", "(I)V"⟩
abbrev cX3_findKinds : ByteArray := prog_5_method_12_code
def yX3_findKinds : MethodName := ⟨RX3, "findKinds", "(LGlassSpill$Scene;)V"⟩
abbrev cX3_unmarkedKind : ByteArray := prog_5_method_13_code
def yX3_unmarkedKind : MethodName := ⟨RX3, "unmarkedKind", "(I)I"⟩
abbrev cX3_isOneBeside : ByteArray := prog_5_method_14_code
def yX3_isOneBeside : MethodName := ⟨RX3, "isOneBeside", "(II)Z"⟩
abbrev cX3_compose : ByteArray := prog_5_method_15_code
def yX3_compose : MethodName := ⟨RX3, "compose", "(LGlassSpill$Scene;)V"⟩
abbrev cX3_share : ByteArray := prog_5_method_16_code
def yX3_share : MethodName := ⟨RX3, "share", "(LGlassSpill$Scene;I)I"⟩
def RX4 : String := "GlassSpill"
def TX4 : u_T := fun k => match k with
  | 0 => ("GlassSpill", "now", "LGlassSpill$Scene;", true)
  | 1 => ("GlassSpill", "trial", "LGlassSpill$Scene;", true)
  | 2 => ("GlassSpill", "shown", "LGlassSpill$View;", true)
  | 3 => ("GlassSpill", "trialView", "LGlassSpill$View;", true)
  | 4 => ("GlassSpill", "pad", "LGlassSpill$Pad;", true)
  | 5 => ("GlassSpill", "history", "LGlassSpill$History;", true)
  | _ => ("GlassSpill", "slots", "[LGlassSpill$Scene;", true)
def tyX4 : Nat → FieldType := fun k => match k with
  | 0 => .object "GlassSpill$Scene"
  | 1 => .object "GlassSpill$Scene"
  | 2 => .object "GlassSpill$View"
  | 3 => .object "GlassSpill$View"
  | 4 => .object "GlassSpill$Pad"
  | 5 => .object "GlassSpill$History"
  | _ => .array (.object "GlassSpill$Scene")
abbrev wsX40 : List Cond := u_ws RX4 TX4 7
theorem nmX4 : ∀ a, a < 7 → ∀ b, b < 7 → a ≠ b → (TX4 a).2.1 ≠ (TX4 b).2.1 := by decide +kernel
theorem tyX4_ok : ∀ k, k < 7 → parseFieldDescriptor (TX4 k).2.2.1 = some (tyX4 k) := by decide +kernel
abbrev cX4_init : ByteArray := prog_1_method_1_code
def yX4_init : MethodName := ⟨RX4, "<init>", "()V"⟩
abbrev cX4_set : ByteArray := prog_1_method_2_code
def yX4_set : MethodName := ⟨RX4, "set", "(II)I"⟩
abbrev cX4_screen : ByteArray := prog_1_method_3_code
def yX4_screen : MethodName := ⟨RX4, "screen", "(I)I"⟩
abbrev cX4_paint : ByteArray := prog_1_method_4_code
def yX4_paint : MethodName := ⟨RX4, "paint", "(ZII)I"⟩
abbrev cX4_fill : ByteArray := prog_1_method_5_code
def yX4_fill : MethodName := ⟨RX4, "fill", "(ZIII)I"⟩
abbrev cX4_read : ByteArray := prog_1_method_6_code
def yX4_read : MethodName := ⟨RX4, "read", "(ZI)I"⟩
abbrev cX4_mark : ByteArray := prog_1_method_7_code
def yX4_mark : MethodName := ⟨RX4, "mark", "(IZ)I"⟩
abbrev cX4_keep : ByteArray := prog_1_method_8_code
def yX4_keep : MethodName := ⟨RX4, "keep", "()I"⟩
abbrev cX4_pixel : ByteArray := prog_1_method_9_code
def yX4_pixel : MethodName := ⟨RX4, "pixel", "(II)I"⟩
abbrev cX4_count : ByteArray := prog_1_method_10_code
def yX4_count : MethodName := ⟨RX4, "count", "(I)I"⟩
abbrev cX4_row : ByteArray := prog_1_method_11_code
def yX4_row : MethodName := ⟨RX4, "row", "(II)I"⟩
abbrev cX4_bestScreen : ByteArray := prog_1_method_12_code
def yX4_bestScreen : MethodName := ⟨RX4, "bestScreen", "(I)I"⟩
abbrev cX4_leastNear : ByteArray := prog_1_method_13_code
def yX4_leastNear : MethodName := ⟨RX4, "leastNear", "(I)I"⟩
abbrev cX4_ifSet : ByteArray := prog_1_method_14_code
def yX4_ifSet : MethodName := ⟨RX4, "ifSet", "(II)I"⟩
abbrev cX4_bestShare : ByteArray := prog_1_method_15_code
def yX4_bestShare : MethodName := ⟨RX4, "bestShare", "(II)I"⟩
abbrev cX4_put : ByteArray := prog_1_method_16_code
def yX4_put : MethodName := ⟨RX4, "put", "(J)I"⟩
abbrev cX4_wipe : ByteArray := prog_1_method_17_code
def yX4_wipe : MethodName := ⟨RX4, "wipe", "()I"⟩
abbrev cX4_fault : ByteArray := prog_1_method_18_code
def yX4_fault : MethodName := ⟨RX4, "fault", "()I"⟩
abbrev cX4_undo : ByteArray := prog_1_method_19_code
def yX4_undo : MethodName := ⟨RX4, "undo", "()I"⟩
abbrev cX4_save : ByteArray := prog_1_method_20_code
def yX4_save : MethodName := ⟨RX4, "save", "(I)I"⟩
abbrev cX4_restore : ByteArray := prog_1_method_21_code
def yX4_restore : MethodName := ⟨RX4, "restore", "(I)I"⟩
abbrev cX4_isPixel : ByteArray := prog_1_method_22_code
def yX4_isPixel : MethodName := ⟨RX4, "isPixel", "(I)Z"⟩
abbrev cX4_isRow : ByteArray := prog_1_method_23_code
def yX4_isRow : MethodName := ⟨RX4, "isRow", "(I)Z"⟩
abbrev cX4_isColour : ByteArray := prog_1_method_24_code
def yX4_isColour : MethodName := ⟨RX4, "isColour", "(I)Z"⟩
abbrev cX4_isSlot : ByteArray := prog_1_method_25_code
def yX4_isSlot : MethodName := ⟨RX4, "isSlot", "(I)Z"⟩
abbrev cX4_isSetting : ByteArray := prog_1_method_26_code
def yX4_isSetting : MethodName := ⟨RX4, "isSetting", "(I)Z"⟩
abbrev cX4_errorOfSetting : ByteArray := prog_1_method_27_code
def yX4_errorOfSetting : MethodName := ⟨RX4, "errorOfSetting", "(II)I"⟩
abbrev cX4_charactersIn : ByteArray := prog_1_method_28_code
def yX4_charactersIn : MethodName := ⟨RX4, "charactersIn", "(J)I"⟩
abbrev cX4_beside : ByteArray := prog_1_method_29_code
def yX4_beside : MethodName := ⟨RX4, "beside", "(II)I"⟩
abbrev cX4_isAtEdge : ByteArray := prog_1_method_30_code
def yX4_isAtEdge : MethodName := ⟨RX4, "isAtEdge", "(I)Z"⟩
abbrev cX4_fillBetween : ByteArray := prog_1_method_31_code
def yX4_fillBetween : MethodName := ⟨RX4, "fillBetween", "([IIII)I"⟩
abbrev cX4_part : ByteArray := prog_1_method_32_code
def yX4_part : MethodName := ⟨RX4, "part", "(II)I"⟩
abbrev cX4_partShift : ByteArray := prog_1_method_33_code
def yX4_partShift : MethodName := ⟨RX4, "partShift", "(I)I"⟩
abbrev cX4_mainPart : ByteArray := prog_1_method_34_code
def yX4_mainPart : MethodName := ⟨RX4, "mainPart", "(I)I"⟩
abbrev cX4_spillIn : ByteArray := prog_1_method_35_code
def yX4_spillIn : MethodName := ⟨RX4, "spillIn", "(II)I"⟩
abbrev cX4_distance : ByteArray := prog_1_method_36_code
def yX4_distance : MethodName := ⟨RX4, "distance", "(II)I"⟩
abbrev cX4_composedColour : ByteArray := prog_1_method_37_code
def yX4_composedColour : MethodName := ⟨RX4, "composedColour", "(III)I"⟩
abbrev cX4_sum : ByteArray := prog_1_method_38_code
def yX4_sum : MethodName := ⟨RX4, "sum", "([I)I"⟩
abbrev cX4_sameColours : ByteArray := prog_1_method_39_code
def yX4_sameColours : MethodName := ⟨RX4, "sameColours", "([I[I)I"⟩
def RX5 : String := "GlassSpillModel"
def TX5 : u_T := fun k => match k with
  | 0 => ("GlassSpillModel", "all", "[I", true)
  | 1 => ("GlassSpillModel", "history", "[I", true)
  | 2 => ("GlassSpillModel", "historyLong", "I", false)
  | 3 => ("GlassSpillModel", "slots", "[I", true)
  | 4 => ("GlassSpillModel", "isSaved", "[I", true)
  | 5 => ("GlassSpillModel", "raw", "[I", true)
  | 6 => ("GlassSpillModel", "opaque", "[I", true)
  | 7 => ("GlassSpillModel", "kind", "[I", true)
  | 8 => ("GlassSpillModel", "out", "[I", true)
  | 9 => ("GlassSpillModel", "composed", "[I", true)
  | 10 => ("GlassSpillModel", "isOpen", "[I", true)
  | 11 => ("GlassSpillModel", "was", "[I", true)
  | 12 => ("GlassSpillModel", "text", "[I", true)
  | 13 => ("GlassSpillModel", "textLong", "I", false)
  | 14 => ("GlassSpillModel", "spot", "I", false)
  | 15 => ("GlassSpillModel", "colours", "[I", true)
  | _ => ("GlassSpillModel", "read", "I", false)
def tyX5 : Nat → FieldType := fun k => match k with
  | 0 => .array .int
  | 1 => .array .int
  | 2 => .int
  | 3 => .array .int
  | 4 => .array .int
  | 5 => .array .int
  | 6 => .array .int
  | 7 => .array .int
  | 8 => .array .int
  | 9 => .array .int
  | 10 => .array .int
  | 11 => .array .int
  | 12 => .array .int
  | 13 => .int
  | 14 => .int
  | 15 => .array .int
  | _ => .int
abbrev wsX50 : List Cond := u_ws RX5 TX5 17
theorem nmX5 : ∀ a, a < 17 → ∀ b, b < 17 → a ≠ b → (TX5 a).2.1 ≠ (TX5 b).2.1 := by decide +kernel
theorem tyX5_ok : ∀ k, k < 17 → parseFieldDescriptor (TX5 k).2.2.1 = some (tyX5 k) := by decide +kernel
abbrev cX5_init : ByteArray := prog_7_method_1_code
def yX5_init : MethodName := ⟨RX5, "<init>", "()V"⟩
abbrev cX5_in : ByteArray := prog_7_method_3_code
def yX5_in : MethodName := ⟨RX5, "in", "(JJJ)Z"⟩
abbrev cX5_changes : ByteArray := prog_7_method_4_code
def yX5_changes : MethodName := ⟨RX5, "changes", "()V"⟩
abbrev cX5_partOf : ByteArray := prog_7_method_5_code
def yX5_partOf : MethodName := ⟨RX5, "partOf", "(II)I"⟩
abbrev cX5_off : ByteArray := prog_7_method_6_code
def yX5_off : MethodName := ⟨RX5, "off", "(I)I"⟩
abbrev cX5_distanceOf : ByteArray := prog_7_method_7_code
def yX5_distanceOf : MethodName := ⟨RX5, "distanceOf", "(II)I"⟩
abbrev cX5_mainPart : ByteArray := prog_7_method_8_code
def yX5_mainPart : MethodName := ⟨RX5, "mainPart", "()I"⟩
abbrev cX5_greater : ByteArray := prog_7_method_9_code
def yX5_greater : MethodName := ⟨RX5, "greater", "(II)I"⟩
abbrev cX5_spillOf : ByteArray := prog_7_method_10_code
def yX5_spillOf : MethodName := ⟨RX5, "spillOf", "(II)I"⟩
abbrev cX5_beside : ByteArray := prog_7_method_11_code
def yX5_beside : MethodName := ⟨RX5, "beside", "(II)I"⟩
abbrev cX5_isEdge : ByteArray := prog_7_method_12_code
def yX5_isEdge : MethodName := ⟨RX5, "isEdge", "(I)Z"⟩
abbrev cX5_rawOf : ByteArray := prog_7_method_13_code
def yX5_rawOf : MethodName := ⟨RX5, "rawOf", "(I)I"⟩
abbrev cX5_opens : ByteArray := prog_7_method_14_code
def yX5_opens : MethodName := ⟨RX5, "opens", "()V"⟩
abbrev cX5_isBeside : ByteArray := prog_7_method_15_code
def yX5_isBeside : MethodName := ⟨RX5, "isBeside", "(II)Z"⟩
abbrev cX5_kindOf : ByteArray := prog_7_method_16_code
def yX5_kindOf : MethodName := ⟨RX5, "kindOf", "(I)I"⟩
abbrev cX5_shareOf : ByteArray := prog_7_method_17_code
def yX5_shareOf : MethodName := ⟨RX5, "shareOf", "(I)I"⟩
abbrev cX5_without : ByteArray := prog_7_method_18_code
def yX5_without : MethodName := ⟨RX5, "without", "(III)I"⟩
abbrev cX5_composes : ByteArray := prog_7_method_19_code
def yX5_composes : MethodName := ⟨RX5, "composes", "(II)I"⟩
abbrev cX5_works : ByteArray := prog_7_method_20_code
def yX5_works : MethodName := ⟨RX5, "works", "()V"⟩
abbrev cX5_isSetting : ByteArray := prog_7_method_21_code
def yX5_isSetting : MethodName := ⟨RX5, "isSetting", "(II)Z"⟩
abbrev cX5_isOrdered : ByteArray := prog_7_method_22_code
def yX5_isOrdered : MethodName := ⟨RX5, "isOrdered", "(II)Z"⟩
abbrev cX5_set : ByteArray := prog_7_method_23_code
def yX5_set : MethodName := ⟨RX5, "set", "(II)I"⟩
abbrev cX5_isColour : ByteArray := prog_7_method_24_code
def yX5_isColour : MethodName := ⟨RX5, "isColour", "(I)Z"⟩
abbrev cX5_isPixel : ByteArray := prog_7_method_25_code
def yX5_isPixel : MethodName := ⟨RX5, "isPixel", "(I)Z"⟩
abbrev cX5_screen : ByteArray := prog_7_method_26_code
def yX5_screen : MethodName := ⟨RX5, "screen", "(I)I"⟩
abbrev cX5_picture : ByteArray := prog_7_method_27_code
def yX5_picture : MethodName := ⟨RX5, "picture", "(Z)I"⟩
abbrev cX5_paint : ByteArray := prog_7_method_28_code
def yX5_paint : MethodName := ⟨RX5, "paint", "(ZII)I"⟩
abbrev cX5_isBetween : ByteArray := prog_7_method_29_code
def yX5_isBetween : MethodName := ⟨RX5, "isBetween", "(III)Z"⟩
abbrev cX5_fill : ByteArray := prog_7_method_30_code
def yX5_fill : MethodName := ⟨RX5, "fill", "(ZIII)I"⟩
abbrev cX5_marked : ByteArray := prog_7_method_31_code
def yX5_marked : MethodName := ⟨RX5, "marked", "()I"⟩
abbrev cX5_mark : ByteArray := prog_7_method_32_code
def yX5_mark : MethodName := ⟨RX5, "mark", "(IZ)I"⟩
abbrev cX5_keep : ByteArray := prog_7_method_33_code
def yX5_keep : MethodName := ⟨RX5, "keep", "()I"⟩
abbrev cX5_pixel : ByteArray := prog_7_method_34_code
def yX5_pixel : MethodName := ⟨RX5, "pixel", "(II)I"⟩
abbrev cX5_ofKind : ByteArray := prog_7_method_35_code
def yX5_ofKind : MethodName := ⟨RX5, "ofKind", "(I)I"⟩
abbrev cX5_over : ByteArray := prog_7_method_36_code
def yX5_over : MethodName := ⟨RX5, "over", "(I)I"⟩
abbrev cX5_count : ByteArray := prog_7_method_37_code
def yX5_count : MethodName := ⟨RX5, "count", "(I)I"⟩
abbrev cX5_row : ByteArray := prog_7_method_38_code
def yX5_row : MethodName := ⟨RX5, "row", "(II)I"⟩
abbrev cX5_bestScreen : ByteArray := prog_7_method_39_code
def yX5_bestScreen : MethodName := ⟨RX5, "bestScreen", "(I)I"⟩
abbrev cX5_leastNear : ByteArray := prog_7_method_40_code
def yX5_leastNear : MethodName := ⟨RX5, "leastNear", "(I)I"⟩
abbrev cX5_ifSet : ByteArray := prog_7_method_41_code
def yX5_ifSet : MethodName := ⟨RX5, "ifSet", "(II)I"⟩
abbrev cX5_spillLeft : ByteArray := prog_7_method_42_code
def yX5_spillLeft : MethodName := ⟨RX5, "spillLeft", "()I"⟩
abbrev cX5_bestShare : ByteArray := prog_7_method_43_code
def yX5_bestShare : MethodName := ⟨RX5, "bestShare", "(II)I"⟩
abbrev cX5_charactersOf : ByteArray := prog_7_method_44_code
def yX5_charactersOf : MethodName := ⟨RX5, "charactersOf", "(J)I"⟩
abbrev cX5_put : ByteArray := prog_7_method_45_code
def yX5_put : MethodName := ⟨RX5, "put", "(J)I"⟩
abbrev cX5_wipe : ByteArray := prog_7_method_46_code
def yX5_wipe : MethodName := ⟨RX5, "wipe", "()I"⟩
abbrev cX5_readsPart : ByteArray := prog_7_method_47_code
def yX5_readsPart : MethodName := ⟨RX5, "readsPart", "()I"⟩
abbrev cX5_readsColour : ByteArray := prog_7_method_48_code
def yX5_readsColour : MethodName := ⟨RX5, "readsColour", "()Z"⟩
abbrev cX5_fault : ByteArray := prog_7_method_49_code
def yX5_fault : MethodName := ⟨RX5, "fault", "()I"⟩
abbrev cX5_read : ByteArray := prog_7_method_50_code
def yX5_read : MethodName := ⟨RX5, "read", "(ZI)I"⟩
abbrev cX5_undo : ByteArray := prog_7_method_51_code
def yX5_undo : MethodName := ⟨RX5, "undo", "()I"⟩
abbrev cX5_isSlot : ByteArray := prog_7_method_52_code
def yX5_isSlot : MethodName := ⟨RX5, "isSlot", "(I)Z"⟩
abbrev cX5_save : ByteArray := prog_7_method_53_code
def yX5_save : MethodName := ⟨RX5, "save", "(I)I"⟩
abbrev cX5_restore : ByteArray := prog_7_method_54_code
def yX5_restore : MethodName := ⟨RX5, "restore", "(I)I"⟩
def RJ9 : String := "java/lang/Math"
def TJ9 : u_T := fun k => match k with
  | _ => ("", "", "", false)
def tyJ9 : Nat → FieldType := fun k => match k with
  | _ => .int
abbrev wsJ90 : List Cond := u_ws RJ9 TJ9 0
theorem nmJ9 : ∀ a, a < 0 → ∀ b, b < 0 → a ≠ b → (TJ9 a).2.1 ≠ (TJ9 b).2.1 := by decide +kernel
theorem tyJ9_ok : ∀ k, k < 0 → parseFieldDescriptor (TJ9 k).2.2.1 = some (tyJ9 k) := by decide +kernel
abbrev cJ9_floorMod_7cf53 : ByteArray := prog_8_method_50_code
def yJ9_floorMod_7cf53 : MethodName := ⟨RJ9, "floorMod", "(II)I"⟩
abbrev cJ9_abs_0f7a4 : ByteArray := prog_8_method_59_code
def yJ9_abs_0f7a4 : MethodName := ⟨RJ9, "abs", "(I)I"⟩
abbrev cJ9_max_7cf53 : ByteArray := prog_8_method_65_code
def yJ9_max_7cf53 : MethodName := ⟨RJ9, "max", "(II)I"⟩
abbrev cJ9_min_7cf53 : ByteArray := prog_8_method_69_code
def yJ9_min_7cf53 : MethodName := ⟨RJ9, "min", "(II)I"⟩
def RJ10 : String := "java/lang/System"
def TJ10 : u_T := fun k => match k with
  | _ => ("", "", "", false)
def tyJ10 : Nat → FieldType := fun k => match k with
  | _ => .int
abbrev wsJ100 : List Cond := u_ws RJ10 TJ10 0
theorem nmJ10 : ∀ a, a < 0 → ∀ b, b < 0 → a ≠ b → (TJ10 a).2.1 ≠ (TJ10 b).2.1 := by decide +kernel
theorem tyJ10_ok : ∀ k, k < 0 → parseFieldDescriptor (TJ10 k).2.2.1 = some (tyJ10 k) := by decide +kernel
def RL : String := "GlassSpillLaw"
abbrev cL_law : ByteArray := code
def yL_law : MethodName := ⟨RL, "law", "([I)Z"⟩
def wsX2_init : List Cond := .code yX2_init cX2_init 1 none :: ([.methodLink RX2 3 objectInit, .instanceMethod objectInit, .code objectInit ⟨#[0xb1]⟩ 1 none, .arrayClass .int, .fieldLink RX2 9 "GlassSpill$Scene" "settings" "[I", .fieldLink RX2 15 "GlassSpill$Scene" "front" "[I", .fieldLink RX2 18 "GlassSpill$Scene" "back" "[I", .arrayClass .boolean, .fieldLink RX2 21 "GlassSpill$Scene" "glass" "[Z", .fieldLink RX2 25 "GlassSpill$Scene" "screenColour" "I", .methodLink RX2 32 arraycopyName, .native arraycopyName, .static arraycopyName, .initialized "java/lang/System"] ++ wsX20)
def wsX0_init : List Cond := .code yX0_init cX0_init 2 none :: ([.methodLink RX0 3 objectInit, .instanceMethod objectInit, .code objectInit ⟨#[0xb1]⟩ 1 none, .classLink RX0 9 RX2, .fieldLink RX0 11 "GlassSpill$History" "states" "[LGlassSpill$Scene;", .fieldLink RX0 17 "GlassSpill$History" "oldest" "I", .fieldLink RX0 21 "GlassSpill$History" "size" "I", .instantiable RX2 5, .initialized RX2, .methodLink RX0 24 yX2_init, .instanceMethod yX2_init, .code yX2_init cX2_init 1 none, .methodLink RX2 3 objectInit, .arrayClass .int, .fieldLink RX2 9 "GlassSpill$Scene" "settings" "[I", .fieldLink RX2 15 "GlassSpill$Scene" "front" "[I", .fieldLink RX2 18 "GlassSpill$Scene" "back" "[I", .arrayClass .boolean, .fieldLink RX2 21 "GlassSpill$Scene" "glass" "[Z", .fieldLink RX2 25 "GlassSpill$Scene" "screenColour" "I", .methodLink RX2 32 arraycopyName, .native arraycopyName, .static arraycopyName, .initialized "java/lang/System"] ++ wsX00 ++ wsX20)
def wsJ9_floorMod_7cf53 : List Cond := .code yJ9_floorMod_7cf53 cJ9_floorMod_7cf53 3 (some .int) :: ([])
def wsX2_copyFrom : List Cond := .code yX2_copyFrom cX2_copyFrom 3 none :: ([.fieldLink RX2 9 "GlassSpill$Scene" "settings" "[I", .methodLink RX2 32 arraycopyName, .native arraycopyName, .static arraycopyName, .initialized "java/lang/System", .fieldLink RX2 15 "GlassSpill$Scene" "front" "[I", .fieldLink RX2 18 "GlassSpill$Scene" "back" "[I", .fieldLink RX2 21 "GlassSpill$Scene" "glass" "[Z", .fieldLink RX2 25 "GlassSpill$Scene" "screenColour" "I"] ++ wsX20)
def wsX0_remember : List Cond := .code yX0_remember cX0_remember 3 none :: ([.fieldLink RX0 11 "GlassSpill$History" "states" "[LGlassSpill$Scene;", .fieldLink RX0 17 "GlassSpill$History" "oldest" "I", .fieldLink RX0 21 "GlassSpill$History" "size" "I", .methodLink RX0 25 yJ9_floorMod_7cf53, .static yJ9_floorMod_7cf53, .initialized RJ9, .code yJ9_floorMod_7cf53 cJ9_floorMod_7cf53 3 (some .int), .methodLink RX0 31 yX2_copyFrom, .instanceMethod yX2_copyFrom, .selects RX2 yX2_copyFrom yX2_copyFrom, .initialized RX2, .code yX2_copyFrom cX2_copyFrom 3 none, .fieldLink RX2 9 "GlassSpill$Scene" "settings" "[I", .methodLink RX2 32 arraycopyName, .native arraycopyName, .static arraycopyName, .initialized "java/lang/System", .fieldLink RX2 15 "GlassSpill$Scene" "front" "[I", .fieldLink RX2 18 "GlassSpill$Scene" "back" "[I", .fieldLink RX2 21 "GlassSpill$Scene" "glass" "[Z", .fieldLink RX2 25 "GlassSpill$Scene" "screenColour" "I"] ++ wsX00 ++ wsX20)
def wsX0_takeBack : List Cond := .code yX0_takeBack cX0_takeBack 3 none :: ([.fieldLink RX0 21 "GlassSpill$History" "size" "I", .fieldLink RX0 11 "GlassSpill$History" "states" "[LGlassSpill$Scene;", .fieldLink RX0 17 "GlassSpill$History" "oldest" "I", .methodLink RX0 25 yJ9_floorMod_7cf53, .static yJ9_floorMod_7cf53, .initialized RJ9, .code yJ9_floorMod_7cf53 cJ9_floorMod_7cf53 3 (some .int), .methodLink RX0 31 yX2_copyFrom, .instanceMethod yX2_copyFrom, .selects RX2 yX2_copyFrom yX2_copyFrom, .initialized RX2, .code yX2_copyFrom cX2_copyFrom 3 none, .fieldLink RX2 9 "GlassSpill$Scene" "settings" "[I", .methodLink RX2 32 arraycopyName, .native arraycopyName, .static arraycopyName, .initialized "java/lang/System", .fieldLink RX2 15 "GlassSpill$Scene" "front" "[I", .fieldLink RX2 18 "GlassSpill$Scene" "back" "[I", .fieldLink RX2 21 "GlassSpill$Scene" "glass" "[Z", .fieldLink RX2 25 "GlassSpill$Scene" "screenColour" "I"] ++ wsX00 ++ wsX20)
def wsX1_init : List Cond := .code yX1_init cX1_init 1 none :: ([.methodLink RX1 3 objectInit, .instanceMethod objectInit, .code objectInit ⟨#[0xb1]⟩ 1 none, .arrayClass .int, .fieldLink RX1 9 "GlassSpill$Pad" "codes" "[I", .fieldLink RX1 15 "GlassSpill$Pad" "length" "I"] ++ wsX10)
def wsX1_append : List Cond := .code yX1_append cX1_append 5 none :: ([.fieldLink RX1 15 "GlassSpill$Pad" "length" "I", .fieldLink RX1 9 "GlassSpill$Pad" "codes" "[I", .constantLong RX1 19 (255)] ++ wsX10)
def wsX1_partOf : List Cond := .code yX1_partOf cX1_partOf 1 (some .int) :: ([])
def wsX1_firstFault : List Cond := .code yX1_firstFault cX1_firstFault 4 (some .int) :: ([.fieldLink RX1 15 "GlassSpill$Pad" "length" "I", .fieldLink RX1 9 "GlassSpill$Pad" "codes" "[I", .methodLink RX1 21 yX1_partOf, .static yX1_partOf, .initialized RX1, .code yX1_partOf cX1_partOf 1 (some .int)] ++ wsX10)
def wsX4_isPixel : List Cond := .code yX4_isPixel cX4_isPixel 1 (some .boolean) :: ([])
def wsX1_paintOn : List Cond := .code yX1_paintOn cX1_paintOn 8 (some .int) :: ([.fieldLink RX1 15 "GlassSpill$Pad" "length" "I", .fieldLink RX1 9 "GlassSpill$Pad" "codes" "[I", .methodLink RX1 21 yX1_partOf, .static yX1_partOf, .initialized RX1, .code yX1_partOf cX1_partOf 1 (some .int), .static yX4_isPixel, .initialized RX4, .code yX4_isPixel cX4_isPixel 1 (some .boolean)] ++ wsX10)
def wsX4_isSetting : List Cond := .code yX4_isSetting cX4_isSetting 1 (some .boolean) :: ([])
def wsX2_changeSetting : List Cond := .code yX2_changeSetting cX2_changeSetting 4 (some .int) :: ([.fieldLink RX2 9 "GlassSpill$Scene" "settings" "[I", .static yX4_isSetting, .initialized RX4, .code yX4_isSetting cX4_isSetting 1 (some .boolean)] ++ wsX20)
def wsX2_picture : List Cond := .code yX2_picture cX2_picture 2 (some (.array .int)) :: ([.fieldLink RX2 15 "GlassSpill$Scene" "front" "[I", .fieldLink RX2 18 "GlassSpill$Scene" "back" "[I"] ++ wsX20)
def wsX4_partShift : List Cond := .code yX4_partShift cX4_partShift 1 (some .int) :: ([])
def wsX4_part : List Cond := .code yX4_part cX4_part 2 (some .int) :: ([.methodLink RX4 193 yX4_partShift, .static yX4_partShift, .initialized RX4, .code yX4_partShift cX4_partShift 1 (some .int)])
def wsX4_distance : List Cond := .code yX4_distance cX4_distance 4 (some .int) :: ([.methodLink RX4 199 Lib.Math.abs.name, .static Lib.Math.abs.name, .initialized "java/lang/Math", .code Lib.Math.abs.name Lib.Math.abs.code 1 (some .int), .methodLink RX4 196 yX4_part, .static yX4_part, .initialized RX4, .code yX4_part cX4_part 2 (some .int), .methodLink RX4 193 yX4_partShift, .static yX4_partShift, .code yX4_partShift cX4_partShift 1 (some .int)])
def wsX2_distanceOf : List Cond := .code yX2_distanceOf cX2_distanceOf 2 (some .int) :: ([.fieldLink RX2 15 "GlassSpill$Scene" "front" "[I", .fieldLink RX2 25 "GlassSpill$Scene" "screenColour" "I", .static yX4_isPixel, .initialized RX4, .code yX4_isPixel cX4_isPixel 1 (some .boolean), .static yX4_distance, .code yX4_distance cX4_distance 4 (some .int), .methodLink RX4 199 Lib.Math.abs.name, .static Lib.Math.abs.name, .initialized "java/lang/Math", .code Lib.Math.abs.name Lib.Math.abs.code 1 (some .int), .methodLink RX4 196 yX4_part, .static yX4_part, .code yX4_part cX4_part 2 (some .int), .methodLink RX4 193 yX4_partShift, .static yX4_partShift, .code yX4_partShift cX4_partShift 1 (some .int)] ++ wsX20)
def wsX2_marked : List Cond := .code yX2_marked cX2_marked 3 (some .int) :: ([.fieldLink RX2 21 "GlassSpill$Scene" "glass" "[Z"] ++ wsX20)
def wsX3_init : List Cond := .code yX3_init cX3_init 1 none :: ([.methodLink RX3 3 objectInit, .instanceMethod objectInit, .code objectInit ⟨#[0xb1]⟩ 1 none, .arrayClass .int, .fieldLink RX3 9 "GlassSpill$View" "raw" "[I", .fieldLink RX3 15 "GlassSpill$View" "opaque" "[I", .fieldLink RX3 18 "GlassSpill$View" "kinds" "[I", .fieldLink RX3 21 "GlassSpill$View" "spill" "[I", .fieldLink RX3 24 "GlassSpill$View" "taken" "[I", .fieldLink RX3 27 "GlassSpill$View" "cleaned" "[I", .fieldLink RX3 30 "GlassSpill$View" "composed" "[I", .arrayClass .boolean, .fieldLink RX3 33 "GlassSpill$View" "reached" "[Z", .fieldLink RX3 37 "GlassSpill$View" "queue" "[I", .fieldLink RX3 40 "GlassSpill$View" "queued" "I"] ++ wsX30)
def wsX3_rawOpaque : List Cond := .code yX3_rawOpaque cX3_rawOpaque 3 (some .int) :: ([])
def wsX4_isAtEdge : List Cond := .code yX4_isAtEdge cX4_isAtEdge 3 (some .boolean) :: ([])
def wsX3_reach : List Cond := .code yX3_reach cX3_reach 2 none :: ([.fieldLink RX3 9 "GlassSpill$View" "raw" "[I", .fieldLink RX3 33 "GlassSpill$View" "reached" "[Z", .fieldLink RX3 40 "GlassSpill$View" "queued" "I", .fieldLink RX3 37 "GlassSpill$View" "queue" "[I", .static yX4_isPixel, .initialized RX4, .code yX4_isPixel cX4_isPixel 1 (some .boolean)] ++ wsX30)
def wsX4_beside : List Cond := .code yX4_beside cX4_beside 3 (some .int) :: ([])
def wsX3_reachFromEdge : List Cond := .code yX3_reachFromEdge cX3_reachFromEdge 3 none :: ([.fieldLink RX3 40 "GlassSpill$View" "queued" "I", .fieldLink RX3 33 "GlassSpill$View" "reached" "[Z", .fieldLink RX3 37 "GlassSpill$View" "queue" "[I", .static yX4_isAtEdge, .initialized RX4, .code yX4_isAtEdge cX4_isAtEdge 3 (some .boolean), .methodLink RX3 90 yX3_reach, .instanceMethod yX3_reach, .selects RX3 yX3_reach yX3_reach, .initialized RX3, .code yX3_reach cX3_reach 2 none, .fieldLink RX3 9 "GlassSpill$View" "raw" "[I", .static yX4_isPixel, .code yX4_isPixel cX4_isPixel 1 (some .boolean), .static yX4_beside, .code yX4_beside cX4_beside 3 (some .int)] ++ wsX30)
def wsX3_closeHoles : List Cond := .code yX3_closeHoles cX3_closeHoles 2 none :: ([.fieldLink RX3 33 "GlassSpill$View" "reached" "[Z", .fieldLink RX3 15 "GlassSpill$View" "opaque" "[I", .methodLink RX3 83 yX3_reachFromEdge, .instanceMethod yX3_reachFromEdge, .selects RX3 yX3_reachFromEdge yX3_reachFromEdge, .initialized RX3, .code yX3_reachFromEdge cX3_reachFromEdge 3 none, .fieldLink RX3 40 "GlassSpill$View" "queued" "I", .fieldLink RX3 37 "GlassSpill$View" "queue" "[I", .static yX4_isAtEdge, .initialized RX4, .code yX4_isAtEdge cX4_isAtEdge 3 (some .boolean), .methodLink RX3 90 yX3_reach, .instanceMethod yX3_reach, .selects RX3 yX3_reach yX3_reach, .code yX3_reach cX3_reach 2 none, .fieldLink RX3 9 "GlassSpill$View" "raw" "[I", .static yX4_isPixel, .code yX4_isPixel cX4_isPixel 1 (some .boolean), .static yX4_beside, .code yX4_beside cX4_beside 3 (some .int)] ++ wsX30)
def wsX3_findOpaque_r1 : List Cond := [Cond.fieldLink RX3 70 "GlassSpill$Scene" "settings" "[I", Cond.fieldLink RX3 9 "GlassSpill$View" "raw" "[I", Cond.fieldLink RX3 15 "GlassSpill$View" "opaque" "[I", Cond.methodLink RX3 73 yX2_distanceOf, Cond.instanceMethod yX2_distanceOf, Cond.selects RX2 yX2_distanceOf yX2_distanceOf, Cond.initialized RX2, Cond.code yX2_distanceOf cX2_distanceOf 2 (some .int), Cond.fieldLink RX2 15 "GlassSpill$Scene" "front" "[I", Cond.fieldLink RX2 25 "GlassSpill$Scene" "screenColour" "I", Cond.static yX4_isPixel, Cond.initialized RX4, Cond.code yX4_isPixel cX4_isPixel 1 (some .boolean), Cond.static yX4_distance, Cond.code yX4_distance cX4_distance 4 (some .int), Cond.methodLink RX4 199 Lib.Math.abs.name, Cond.static Lib.Math.abs.name, Cond.initialized "java/lang/Math", Cond.code Lib.Math.abs.name Lib.Math.abs.code 1 (some .int), Cond.methodLink RX4 196 yX4_part, Cond.static yX4_part, Cond.code yX4_part cX4_part 2 (some .int), Cond.methodLink RX4 193 yX4_partShift, Cond.static yX4_partShift]
def wsX3_findOpaque_r2 : List Cond := [Cond.code yX4_partShift cX4_partShift 1 (some .int), Cond.methodLink RX3 76 yX3_rawOpaque, Cond.static yX3_rawOpaque, Cond.initialized RX3, Cond.code yX3_rawOpaque cX3_rawOpaque 3 (some .int), Cond.methodLink RX3 80 yX3_closeHoles, Cond.instanceMethod yX3_closeHoles, Cond.selects RX3 yX3_closeHoles yX3_closeHoles, Cond.code yX3_closeHoles cX3_closeHoles 2 none, Cond.fieldLink RX3 33 "GlassSpill$View" "reached" "[Z", Cond.methodLink RX3 83 yX3_reachFromEdge, Cond.instanceMethod yX3_reachFromEdge, Cond.selects RX3 yX3_reachFromEdge yX3_reachFromEdge, Cond.code yX3_reachFromEdge cX3_reachFromEdge 3 none, Cond.fieldLink RX3 40 "GlassSpill$View" "queued" "I", Cond.fieldLink RX3 37 "GlassSpill$View" "queue" "[I", Cond.static yX4_isAtEdge, Cond.code yX4_isAtEdge cX4_isAtEdge 3 (some .boolean), Cond.methodLink RX3 90 yX3_reach, Cond.instanceMethod yX3_reach, Cond.selects RX3 yX3_reach yX3_reach, Cond.code yX3_reach cX3_reach 2 none, Cond.static yX4_beside, Cond.code yX4_beside cX4_beside 3 (some .int)]
def wsX3_findOpaque : List Cond := .code yX3_findOpaque cX3_findOpaque 5 none :: ((wsX3_findOpaque_r1 ++ wsX3_findOpaque_r2) ++ wsX20 ++ wsX30)
def wsX3_isOneBeside : List Cond := .code yX3_isOneBeside cX3_isOneBeside 5 (some .boolean) :: ([.fieldLink RX3 15 "GlassSpill$View" "opaque" "[I", .static yX4_beside, .initialized RX4, .code yX4_beside cX4_beside 3 (some .int), .static yX4_isPixel, .code yX4_isPixel cX4_isPixel 1 (some .boolean)] ++ wsX30)
def wsX3_unmarkedKind : List Cond := .code yX3_unmarkedKind cX3_unmarkedKind 2 (some .int) :: ([.fieldLink RX3 15 "GlassSpill$View" "opaque" "[I", .static yX4_isPixel, .initialized RX4, .code yX4_isPixel cX4_isPixel 1 (some .boolean), .methodLink RX3 103 yX3_isOneBeside, .instanceMethod yX3_isOneBeside, .selects RX3 yX3_isOneBeside yX3_isOneBeside, .initialized RX3, .code yX3_isOneBeside cX3_isOneBeside 5 (some .boolean), .static yX4_beside, .code yX4_beside cX4_beside 3 (some .int)] ++ wsX30)
def wsX3_findKinds : List Cond := .code yX3_findKinds cX3_findKinds 3 none :: ([.fieldLink RX3 18 "GlassSpill$View" "kinds" "[I", .fieldLink RX3 54 "GlassSpill$Scene" "glass" "[Z", .methodLink RX3 100 yX3_unmarkedKind, .instanceMethod yX3_unmarkedKind, .selects RX3 yX3_unmarkedKind yX3_unmarkedKind, .initialized RX3, .code yX3_unmarkedKind cX3_unmarkedKind 2 (some .int), .fieldLink RX3 15 "GlassSpill$View" "opaque" "[I", .static yX4_isPixel, .initialized RX4, .code yX4_isPixel cX4_isPixel 1 (some .boolean), .methodLink RX3 103 yX3_isOneBeside, .instanceMethod yX3_isOneBeside, .selects RX3 yX3_isOneBeside yX3_isOneBeside, .code yX3_isOneBeside cX3_isOneBeside 5 (some .boolean), .static yX4_beside, .code yX4_beside cX4_beside 3 (some .int)] ++ wsX30 ++ wsX20)
def wsX4_mainPart : List Cond := .code yX4_mainPart cX4_mainPart 3 (some .int) :: ([.methodLink RX4 196 yX4_part, .static yX4_part, .initialized RX4, .code yX4_part cX4_part 2 (some .int), .methodLink RX4 193 yX4_partShift, .static yX4_partShift, .code yX4_partShift cX4_partShift 1 (some .int)])
def wsX4_spillIn : List Cond := .code yX4_spillIn cX4_spillIn 4 (some .int) :: ([.methodLink RX4 190 Lib.Math.max.name, .static Lib.Math.max.name, .initialized "java/lang/Math", .code Lib.Math.max.name Lib.Math.max.code 2 (some .int), .methodLink RX4 196 yX4_part, .static yX4_part, .initialized RX4, .code yX4_part cX4_part 2 (some .int), .methodLink RX4 193 yX4_partShift, .static yX4_partShift, .code yX4_partShift cX4_partShift 1 (some .int)])
def wsX3_share : List Cond := .code yX3_share cX3_share 2 (some .int) :: ([.fieldLink RX3 70 "GlassSpill$Scene" "settings" "[I"] ++ wsX20)
def wsX4_composedColour : List Cond := .code yX4_composedColour cX4_composedColour 6 (some .int) :: ([.methodLink RX4 196 yX4_part, .static yX4_part, .initialized RX4, .code yX4_part cX4_part 2 (some .int), .methodLink RX4 193 yX4_partShift, .static yX4_partShift, .code yX4_partShift cX4_partShift 1 (some .int)])
def wsX3_compose_r1 : List Cond := [Cond.fieldLink RX3 59 "GlassSpill$Scene" "screenColour" "I", Cond.fieldLink RX3 21 "GlassSpill$View" "spill" "[I", Cond.fieldLink RX3 107 "GlassSpill$Scene" "front" "[I", Cond.fieldLink RX3 24 "GlassSpill$View" "taken" "[I", Cond.fieldLink RX3 18 "GlassSpill$View" "kinds" "[I", Cond.fieldLink RX3 27 "GlassSpill$View" "cleaned" "[I", Cond.fieldLink RX3 30 "GlassSpill$View" "composed" "[I", Cond.fieldLink RX3 117 "GlassSpill$Scene" "back" "[I", Cond.fieldLink RX3 15 "GlassSpill$View" "opaque" "[I", Cond.static yX4_mainPart, Cond.initialized RX4, Cond.code yX4_mainPart cX4_mainPart 3 (some .int), Cond.methodLink RX4 196 yX4_part, Cond.static yX4_part, Cond.code yX4_part cX4_part 2 (some .int), Cond.methodLink RX4 193 yX4_partShift, Cond.static yX4_partShift, Cond.code yX4_partShift cX4_partShift 1 (some .int), Cond.static yX4_spillIn, Cond.code yX4_spillIn cX4_spillIn 4 (some .int), Cond.methodLink RX4 190 Lib.Math.max.name, Cond.static Lib.Math.max.name, Cond.initialized "java/lang/Math", Cond.code Lib.Math.max.name Lib.Math.max.code 2 (some .int)]
def wsX3_compose_r2 : List Cond := [Cond.methodLink RX3 110 yX3_share, Cond.static yX3_share, Cond.initialized RX3, Cond.code yX3_share cX3_share 2 (some .int), Cond.fieldLink RX3 70 "GlassSpill$Scene" "settings" "[I", Cond.static yX4_composedColour, Cond.code yX4_composedColour cX4_composedColour 6 (some .int)]
def wsX3_compose : List Cond := .code yX3_compose cX3_compose 4 none :: ((wsX3_compose_r1 ++ wsX3_compose_r2) ++ wsX20 ++ wsX30)
def wsX3_show_r1 : List Cond := [Cond.methodLink RX3 44 yX3_findOpaque, Cond.instanceMethod yX3_findOpaque, Cond.selects RX3 yX3_findOpaque yX3_findOpaque, Cond.initialized RX3, Cond.code yX3_findOpaque cX3_findOpaque 5 none, Cond.fieldLink RX3 70 "GlassSpill$Scene" "settings" "[I", Cond.fieldLink RX3 9 "GlassSpill$View" "raw" "[I", Cond.fieldLink RX3 15 "GlassSpill$View" "opaque" "[I", Cond.methodLink RX3 73 yX2_distanceOf, Cond.instanceMethod yX2_distanceOf, Cond.selects RX2 yX2_distanceOf yX2_distanceOf, Cond.initialized RX2, Cond.code yX2_distanceOf cX2_distanceOf 2 (some .int), Cond.fieldLink RX2 15 "GlassSpill$Scene" "front" "[I", Cond.fieldLink RX2 25 "GlassSpill$Scene" "screenColour" "I", Cond.static yX4_isPixel, Cond.initialized RX4, Cond.code yX4_isPixel cX4_isPixel 1 (some .boolean), Cond.static yX4_distance, Cond.code yX4_distance cX4_distance 4 (some .int), Cond.methodLink RX4 199 Lib.Math.abs.name, Cond.static Lib.Math.abs.name, Cond.initialized "java/lang/Math", Cond.code Lib.Math.abs.name Lib.Math.abs.code 1 (some .int)]
def wsX3_show_r2 : List Cond := [Cond.methodLink RX4 196 yX4_part, Cond.static yX4_part, Cond.code yX4_part cX4_part 2 (some .int), Cond.methodLink RX4 193 yX4_partShift, Cond.static yX4_partShift, Cond.code yX4_partShift cX4_partShift 1 (some .int), Cond.methodLink RX3 76 yX3_rawOpaque, Cond.static yX3_rawOpaque, Cond.code yX3_rawOpaque cX3_rawOpaque 3 (some .int), Cond.methodLink RX3 80 yX3_closeHoles, Cond.instanceMethod yX3_closeHoles, Cond.selects RX3 yX3_closeHoles yX3_closeHoles, Cond.code yX3_closeHoles cX3_closeHoles 2 none, Cond.fieldLink RX3 33 "GlassSpill$View" "reached" "[Z", Cond.methodLink RX3 83 yX3_reachFromEdge, Cond.instanceMethod yX3_reachFromEdge, Cond.selects RX3 yX3_reachFromEdge yX3_reachFromEdge, Cond.code yX3_reachFromEdge cX3_reachFromEdge 3 none, Cond.fieldLink RX3 40 "GlassSpill$View" "queued" "I", Cond.fieldLink RX3 37 "GlassSpill$View" "queue" "[I", Cond.static yX4_isAtEdge, Cond.code yX4_isAtEdge cX4_isAtEdge 3 (some .boolean), Cond.methodLink RX3 90 yX3_reach, Cond.instanceMethod yX3_reach]
def wsX3_show_r3 : List Cond := [Cond.selects RX3 yX3_reach yX3_reach, Cond.code yX3_reach cX3_reach 2 none, Cond.static yX4_beside, Cond.code yX4_beside cX4_beside 3 (some .int), Cond.methodLink RX3 48 yX3_findKinds, Cond.instanceMethod yX3_findKinds, Cond.selects RX3 yX3_findKinds yX3_findKinds, Cond.code yX3_findKinds cX3_findKinds 3 none, Cond.fieldLink RX3 18 "GlassSpill$View" "kinds" "[I", Cond.fieldLink RX3 54 "GlassSpill$Scene" "glass" "[Z", Cond.methodLink RX3 100 yX3_unmarkedKind, Cond.instanceMethod yX3_unmarkedKind, Cond.selects RX3 yX3_unmarkedKind yX3_unmarkedKind, Cond.code yX3_unmarkedKind cX3_unmarkedKind 2 (some .int), Cond.methodLink RX3 103 yX3_isOneBeside, Cond.instanceMethod yX3_isOneBeside, Cond.selects RX3 yX3_isOneBeside yX3_isOneBeside, Cond.code yX3_isOneBeside cX3_isOneBeside 5 (some .boolean), Cond.methodLink RX3 51 yX3_compose, Cond.instanceMethod yX3_compose, Cond.selects RX3 yX3_compose yX3_compose, Cond.code yX3_compose cX3_compose 4 none, Cond.fieldLink RX3 59 "GlassSpill$Scene" "screenColour" "I", Cond.fieldLink RX3 21 "GlassSpill$View" "spill" "[I"]
def wsX3_show_r4 : List Cond := [Cond.fieldLink RX3 107 "GlassSpill$Scene" "front" "[I", Cond.fieldLink RX3 24 "GlassSpill$View" "taken" "[I", Cond.fieldLink RX3 27 "GlassSpill$View" "cleaned" "[I", Cond.fieldLink RX3 30 "GlassSpill$View" "composed" "[I", Cond.fieldLink RX3 117 "GlassSpill$Scene" "back" "[I", Cond.static yX4_mainPart, Cond.code yX4_mainPart cX4_mainPart 3 (some .int), Cond.static yX4_spillIn, Cond.code yX4_spillIn cX4_spillIn 4 (some .int), Cond.methodLink RX4 190 Lib.Math.max.name, Cond.static Lib.Math.max.name, Cond.code Lib.Math.max.name Lib.Math.max.code 2 (some .int), Cond.methodLink RX3 110 yX3_share, Cond.static yX3_share, Cond.code yX3_share cX3_share 2 (some .int), Cond.static yX4_composedColour, Cond.code yX4_composedColour cX4_composedColour 6 (some .int)]
def wsX3_show : List Cond := .code yX3_show cX3_show 2 none :: ((wsX3_show_r1 ++ (wsX3_show_r2 ++ (wsX3_show_r3 ++ wsX3_show_r4))) ++ wsX20 ++ wsX30)
def wsX3_clearPixels_r1 : List Cond := [Cond.fieldLink RX3 15 "GlassSpill$View" "opaque" "[I", Cond.fieldLink RX3 54 "GlassSpill$Scene" "glass" "[Z", Cond.methodLink RX3 44 yX3_findOpaque, Cond.instanceMethod yX3_findOpaque, Cond.selects RX3 yX3_findOpaque yX3_findOpaque, Cond.initialized RX3, Cond.code yX3_findOpaque cX3_findOpaque 5 none, Cond.fieldLink RX3 70 "GlassSpill$Scene" "settings" "[I", Cond.fieldLink RX3 9 "GlassSpill$View" "raw" "[I", Cond.methodLink RX3 73 yX2_distanceOf, Cond.instanceMethod yX2_distanceOf, Cond.selects RX2 yX2_distanceOf yX2_distanceOf, Cond.initialized RX2, Cond.code yX2_distanceOf cX2_distanceOf 2 (some .int), Cond.fieldLink RX2 15 "GlassSpill$Scene" "front" "[I", Cond.fieldLink RX2 25 "GlassSpill$Scene" "screenColour" "I", Cond.static yX4_isPixel, Cond.initialized RX4, Cond.code yX4_isPixel cX4_isPixel 1 (some .boolean), Cond.static yX4_distance, Cond.code yX4_distance cX4_distance 4 (some .int), Cond.methodLink RX4 199 Lib.Math.abs.name, Cond.static Lib.Math.abs.name, Cond.initialized "java/lang/Math"]
def wsX3_clearPixels_r2 : List Cond := [Cond.code Lib.Math.abs.name Lib.Math.abs.code 1 (some .int), Cond.methodLink RX4 196 yX4_part, Cond.static yX4_part, Cond.code yX4_part cX4_part 2 (some .int), Cond.methodLink RX4 193 yX4_partShift, Cond.static yX4_partShift, Cond.code yX4_partShift cX4_partShift 1 (some .int), Cond.methodLink RX3 76 yX3_rawOpaque, Cond.static yX3_rawOpaque, Cond.code yX3_rawOpaque cX3_rawOpaque 3 (some .int), Cond.methodLink RX3 80 yX3_closeHoles, Cond.instanceMethod yX3_closeHoles, Cond.selects RX3 yX3_closeHoles yX3_closeHoles, Cond.code yX3_closeHoles cX3_closeHoles 2 none, Cond.fieldLink RX3 33 "GlassSpill$View" "reached" "[Z", Cond.methodLink RX3 83 yX3_reachFromEdge, Cond.instanceMethod yX3_reachFromEdge, Cond.selects RX3 yX3_reachFromEdge yX3_reachFromEdge, Cond.code yX3_reachFromEdge cX3_reachFromEdge 3 none, Cond.fieldLink RX3 40 "GlassSpill$View" "queued" "I", Cond.fieldLink RX3 37 "GlassSpill$View" "queue" "[I", Cond.static yX4_isAtEdge, Cond.code yX4_isAtEdge cX4_isAtEdge 3 (some .boolean), Cond.methodLink RX3 90 yX3_reach]
def wsX3_clearPixels_r3 : List Cond := [Cond.instanceMethod yX3_reach, Cond.selects RX3 yX3_reach yX3_reach, Cond.code yX3_reach cX3_reach 2 none, Cond.static yX4_beside, Cond.code yX4_beside cX4_beside 3 (some .int)]
def wsX3_clearPixels : List Cond := .code yX3_clearPixels cX3_clearPixels 4 (some .int) :: ((wsX3_clearPixels_r1 ++ (wsX3_clearPixels_r2 ++ wsX3_clearPixels_r3)) ++ wsX30 ++ wsX20)
def wsX3_ofKind : List Cond := .code yX3_ofKind cX3_ofKind 4 (some .int) :: ([.fieldLink RX3 18 "GlassSpill$View" "kinds" "[I"] ++ wsX30)
def wsX3_closed : List Cond := .code yX3_closed cX3_closed 3 (some .int) :: ([.fieldLink RX3 15 "GlassSpill$View" "opaque" "[I", .fieldLink RX3 9 "GlassSpill$View" "raw" "[I"] ++ wsX30)
def wsX3_spillLeft : List Cond := .code yX3_spillLeft cX3_spillLeft 5 (some .int) :: ([.fieldLink RX3 59 "GlassSpill$Scene" "screenColour" "I", .fieldLink RX3 30 "GlassSpill$View" "composed" "[I", .static yX4_mainPart, .initialized RX4, .code yX4_mainPart cX4_mainPart 3 (some .int), .methodLink RX4 196 yX4_part, .static yX4_part, .code yX4_part cX4_part 2 (some .int), .methodLink RX4 193 yX4_partShift, .static yX4_partShift, .code yX4_partShift cX4_partShift 1 (some .int), .static yX4_spillIn, .code yX4_spillIn cX4_spillIn 4 (some .int), .methodLink RX4 190 Lib.Math.max.name, .static Lib.Math.max.name, .initialized "java/lang/Math", .code Lib.Math.max.name Lib.Math.max.code 2 (some .int)] ++ wsX20 ++ wsX30)
def wsX4_init_r1 : List Cond := [Cond.methodLink RX4 1 objectInit, Cond.instanceMethod objectInit, Cond.code objectInit ⟨#[0xb1]⟩ 1 none, Cond.classLink RX4 7 RX2, Cond.instantiable RX2 5, Cond.initialized RX2, Cond.fieldLink RX4 10 "GlassSpill" "now" "LGlassSpill$Scene;", Cond.fieldLink RX4 16 "GlassSpill" "trial" "LGlassSpill$Scene;", Cond.classLink RX4 19 RX3, Cond.instantiable RX3 10, Cond.initialized RX3, Cond.fieldLink RX4 22 "GlassSpill" "shown" "LGlassSpill$View;", Cond.fieldLink RX4 26 "GlassSpill" "trialView" "LGlassSpill$View;", Cond.classLink RX4 29 RX1, Cond.instantiable RX1 2, Cond.initialized RX1, Cond.fieldLink RX4 32 "GlassSpill" "pad" "LGlassSpill$Pad;", Cond.classLink RX4 36 RX0, Cond.instantiable RX0 3, Cond.initialized RX0, Cond.fieldLink RX4 39 "GlassSpill" "history" "LGlassSpill$History;", Cond.fieldLink RX4 43 "GlassSpill" "slots" "[LGlassSpill$Scene;", Cond.methodLink RX4 9 yX2_init, Cond.instanceMethod yX2_init]
def wsX4_init_r2 : List Cond := [Cond.code yX2_init cX2_init 1 none, Cond.methodLink RX2 3 objectInit, Cond.arrayClass .int, Cond.fieldLink RX2 9 "GlassSpill$Scene" "settings" "[I", Cond.fieldLink RX2 15 "GlassSpill$Scene" "front" "[I", Cond.fieldLink RX2 18 "GlassSpill$Scene" "back" "[I", Cond.arrayClass .boolean, Cond.fieldLink RX2 21 "GlassSpill$Scene" "glass" "[Z", Cond.fieldLink RX2 25 "GlassSpill$Scene" "screenColour" "I", Cond.methodLink RX2 32 arraycopyName, Cond.native arraycopyName, Cond.static arraycopyName, Cond.initialized "java/lang/System", Cond.instanceMethod yX3_init, Cond.code yX3_init cX3_init 1 none, Cond.methodLink RX3 3 objectInit, Cond.fieldLink RX3 9 "GlassSpill$View" "raw" "[I", Cond.fieldLink RX3 15 "GlassSpill$View" "opaque" "[I", Cond.fieldLink RX3 18 "GlassSpill$View" "kinds" "[I", Cond.fieldLink RX3 21 "GlassSpill$View" "spill" "[I", Cond.fieldLink RX3 24 "GlassSpill$View" "taken" "[I", Cond.fieldLink RX3 27 "GlassSpill$View" "cleaned" "[I", Cond.fieldLink RX3 30 "GlassSpill$View" "composed" "[I", Cond.fieldLink RX3 33 "GlassSpill$View" "reached" "[Z"]
def wsX4_init_r3 : List Cond := [Cond.fieldLink RX3 37 "GlassSpill$View" "queue" "[I", Cond.fieldLink RX3 40 "GlassSpill$View" "queued" "I", Cond.instanceMethod yX1_init, Cond.code yX1_init cX1_init 1 none, Cond.methodLink RX1 3 objectInit, Cond.fieldLink RX1 9 "GlassSpill$Pad" "codes" "[I", Cond.fieldLink RX1 15 "GlassSpill$Pad" "length" "I", Cond.methodLink RX4 38 yX0_init, Cond.instanceMethod yX0_init, Cond.code yX0_init cX0_init 2 none, Cond.methodLink RX0 3 objectInit, Cond.classLink RX0 9 RX2, Cond.fieldLink RX0 11 "GlassSpill$History" "states" "[LGlassSpill$Scene;", Cond.fieldLink RX0 17 "GlassSpill$History" "oldest" "I", Cond.fieldLink RX0 21 "GlassSpill$History" "size" "I", Cond.methodLink RX0 24 yX2_init]
def wsX4_init : List Cond := .code yX4_init cX4_init 1 none :: ((wsX4_init_r1 ++ (wsX4_init_r2 ++ wsX4_init_r3)) ++ wsX20 ++ wsX40 ++ wsX30 ++ wsX10 ++ wsX00)
def wsX4_errorOfSetting : List Cond := .code yX4_errorOfSetting cX4_errorOfSetting 5 (some .int) :: ([.fieldLink RX4 180 "GlassSpill" "HIGHEST_VALUES" "[I", .fieldLink RX4 10 "GlassSpill" "now" "LGlassSpill$Scene;", .fieldLink RX4 137 "GlassSpill$Scene" "settings" "[I", .methodLink RX4 177 yX4_isSetting, .static yX4_isSetting, .initialized RX4, .code yX4_isSetting cX4_isSetting 1 (some .boolean)] ++ wsX40 ++ wsX20)
def wsX4_set_r1 : List Cond := [Cond.fieldLink RX4 39 "GlassSpill" "history" "LGlassSpill$History;", Cond.fieldLink RX4 10 "GlassSpill" "now" "LGlassSpill$Scene;", Cond.methodLink RX4 47 yX4_errorOfSetting, Cond.instanceMethod yX4_errorOfSetting, Cond.selects RX4 yX4_errorOfSetting yX4_errorOfSetting, Cond.initialized RX4, Cond.code yX4_errorOfSetting cX4_errorOfSetting 5 (some .int), Cond.fieldLink RX4 180 "GlassSpill" "HIGHEST_VALUES" "[I", Cond.fieldLink RX4 137 "GlassSpill$Scene" "settings" "[I", Cond.methodLink RX4 177 yX4_isSetting, Cond.static yX4_isSetting, Cond.code yX4_isSetting cX4_isSetting 1 (some .boolean), Cond.methodLink RX4 51 yX0_remember, Cond.instanceMethod yX0_remember, Cond.selects RX0 yX0_remember yX0_remember, Cond.initialized RX0, Cond.code yX0_remember cX0_remember 3 none, Cond.fieldLink RX0 11 "GlassSpill$History" "states" "[LGlassSpill$Scene;", Cond.fieldLink RX0 17 "GlassSpill$History" "oldest" "I", Cond.fieldLink RX0 21 "GlassSpill$History" "size" "I", Cond.methodLink RX0 25 yJ9_floorMod_7cf53, Cond.static yJ9_floorMod_7cf53, Cond.initialized RJ9, Cond.code yJ9_floorMod_7cf53 cJ9_floorMod_7cf53 3 (some .int)]
def wsX4_set_r2 : List Cond := [Cond.methodLink RX0 31 yX2_copyFrom, Cond.instanceMethod yX2_copyFrom, Cond.selects RX2 yX2_copyFrom yX2_copyFrom, Cond.initialized RX2, Cond.code yX2_copyFrom cX2_copyFrom 3 none, Cond.fieldLink RX2 9 "GlassSpill$Scene" "settings" "[I", Cond.methodLink RX2 32 arraycopyName, Cond.native arraycopyName, Cond.static arraycopyName, Cond.initialized "java/lang/System", Cond.fieldLink RX2 15 "GlassSpill$Scene" "front" "[I", Cond.fieldLink RX2 18 "GlassSpill$Scene" "back" "[I", Cond.fieldLink RX2 21 "GlassSpill$Scene" "glass" "[Z", Cond.fieldLink RX2 25 "GlassSpill$Scene" "screenColour" "I", Cond.methodLink RX4 55 yX2_changeSetting, Cond.instanceMethod yX2_changeSetting, Cond.selects RX2 yX2_changeSetting yX2_changeSetting, Cond.code yX2_changeSetting cX2_changeSetting 4 (some .int)]
def wsX4_set : List Cond := .code yX4_set cX4_set 4 (some .int) :: ((wsX4_set_r1 ++ wsX4_set_r2) ++ wsX40 ++ wsX20 ++ wsX00)
def wsX4_isColour : List Cond := .code yX4_isColour cX4_isColour 1 (some .boolean) :: ([])
def wsX4_screen_r1 : List Cond := [Cond.fieldLink RX4 39 "GlassSpill" "history" "LGlassSpill$History;", Cond.fieldLink RX4 10 "GlassSpill" "now" "LGlassSpill$Scene;", Cond.fieldLink RX4 62 "GlassSpill$Scene" "screenColour" "I", Cond.methodLink RX4 58 yX4_isColour, Cond.static yX4_isColour, Cond.initialized RX4, Cond.code yX4_isColour cX4_isColour 1 (some .boolean), Cond.methodLink RX4 51 yX0_remember, Cond.instanceMethod yX0_remember, Cond.selects RX0 yX0_remember yX0_remember, Cond.initialized RX0, Cond.code yX0_remember cX0_remember 3 none, Cond.fieldLink RX0 11 "GlassSpill$History" "states" "[LGlassSpill$Scene;", Cond.fieldLink RX0 17 "GlassSpill$History" "oldest" "I", Cond.fieldLink RX0 21 "GlassSpill$History" "size" "I", Cond.methodLink RX0 25 yJ9_floorMod_7cf53, Cond.static yJ9_floorMod_7cf53, Cond.initialized RJ9, Cond.code yJ9_floorMod_7cf53 cJ9_floorMod_7cf53 3 (some .int), Cond.methodLink RX0 31 yX2_copyFrom, Cond.instanceMethod yX2_copyFrom, Cond.selects RX2 yX2_copyFrom yX2_copyFrom, Cond.initialized RX2, Cond.code yX2_copyFrom cX2_copyFrom 3 none]
def wsX4_screen_r2 : List Cond := [Cond.fieldLink RX2 9 "GlassSpill$Scene" "settings" "[I", Cond.methodLink RX2 32 arraycopyName, Cond.native arraycopyName, Cond.static arraycopyName, Cond.initialized "java/lang/System", Cond.fieldLink RX2 15 "GlassSpill$Scene" "front" "[I", Cond.fieldLink RX2 18 "GlassSpill$Scene" "back" "[I", Cond.fieldLink RX2 21 "GlassSpill$Scene" "glass" "[Z", Cond.fieldLink RX2 25 "GlassSpill$Scene" "screenColour" "I"]
def wsX4_screen : List Cond := .code yX4_screen cX4_screen 3 (some .int) :: ((wsX4_screen_r1 ++ wsX4_screen_r2) ++ wsX40 ++ wsX20 ++ wsX00)
def wsX4_paint_r1 : List Cond := [Cond.fieldLink RX4 39 "GlassSpill" "history" "LGlassSpill$History;", Cond.fieldLink RX4 10 "GlassSpill" "now" "LGlassSpill$Scene;", Cond.methodLink RX4 66 yX4_isPixel, Cond.static yX4_isPixel, Cond.initialized RX4, Cond.code yX4_isPixel cX4_isPixel 1 (some .boolean), Cond.methodLink RX4 58 yX4_isColour, Cond.static yX4_isColour, Cond.code yX4_isColour cX4_isColour 1 (some .boolean), Cond.methodLink RX4 51 yX0_remember, Cond.instanceMethod yX0_remember, Cond.selects RX0 yX0_remember yX0_remember, Cond.initialized RX0, Cond.code yX0_remember cX0_remember 3 none, Cond.fieldLink RX0 11 "GlassSpill$History" "states" "[LGlassSpill$Scene;", Cond.fieldLink RX0 17 "GlassSpill$History" "oldest" "I", Cond.fieldLink RX0 21 "GlassSpill$History" "size" "I", Cond.methodLink RX0 25 yJ9_floorMod_7cf53, Cond.static yJ9_floorMod_7cf53, Cond.initialized RJ9, Cond.code yJ9_floorMod_7cf53 cJ9_floorMod_7cf53 3 (some .int), Cond.methodLink RX0 31 yX2_copyFrom, Cond.instanceMethod yX2_copyFrom, Cond.selects RX2 yX2_copyFrom yX2_copyFrom]
def wsX4_paint_r2 : List Cond := [Cond.initialized RX2, Cond.code yX2_copyFrom cX2_copyFrom 3 none, Cond.fieldLink RX2 9 "GlassSpill$Scene" "settings" "[I", Cond.methodLink RX2 32 arraycopyName, Cond.native arraycopyName, Cond.static arraycopyName, Cond.initialized "java/lang/System", Cond.fieldLink RX2 15 "GlassSpill$Scene" "front" "[I", Cond.fieldLink RX2 18 "GlassSpill$Scene" "back" "[I", Cond.fieldLink RX2 21 "GlassSpill$Scene" "glass" "[Z", Cond.fieldLink RX2 25 "GlassSpill$Scene" "screenColour" "I", Cond.methodLink RX4 69 yX2_picture, Cond.instanceMethod yX2_picture, Cond.selects RX2 yX2_picture yX2_picture, Cond.code yX2_picture cX2_picture 2 (some (.array .int))]
def wsX4_paint : List Cond := .code yX4_paint cX4_paint 6 (some .int) :: ((wsX4_paint_r1 ++ wsX4_paint_r2) ++ wsX40 ++ wsX00 ++ wsX20)
def wsX4_fillBetween : List Cond := .code yX4_fillBetween cX4_fillBetween 10 (some .int) :: ([.methodLink RX4 185 Lib.Math.min.name, .static Lib.Math.min.name, .initialized "java/lang/Math", .code Lib.Math.min.name Lib.Math.min.code 2 (some .int), .methodLink RX4 190 Lib.Math.max.name, .static Lib.Math.max.name, .code Lib.Math.max.name Lib.Math.max.code 2 (some .int)])
def wsX4_fill_r1 : List Cond := [Cond.fieldLink RX4 39 "GlassSpill" "history" "LGlassSpill$History;", Cond.fieldLink RX4 10 "GlassSpill" "now" "LGlassSpill$Scene;", Cond.methodLink RX4 66 yX4_isPixel, Cond.static yX4_isPixel, Cond.initialized RX4, Cond.code yX4_isPixel cX4_isPixel 1 (some .boolean), Cond.methodLink RX4 58 yX4_isColour, Cond.static yX4_isColour, Cond.code yX4_isColour cX4_isColour 1 (some .boolean), Cond.methodLink RX4 51 yX0_remember, Cond.instanceMethod yX0_remember, Cond.selects RX0 yX0_remember yX0_remember, Cond.initialized RX0, Cond.code yX0_remember cX0_remember 3 none, Cond.fieldLink RX0 11 "GlassSpill$History" "states" "[LGlassSpill$Scene;", Cond.fieldLink RX0 17 "GlassSpill$History" "oldest" "I", Cond.fieldLink RX0 21 "GlassSpill$History" "size" "I", Cond.methodLink RX0 25 yJ9_floorMod_7cf53, Cond.static yJ9_floorMod_7cf53, Cond.initialized RJ9, Cond.code yJ9_floorMod_7cf53 cJ9_floorMod_7cf53 3 (some .int), Cond.methodLink RX0 31 yX2_copyFrom, Cond.instanceMethod yX2_copyFrom, Cond.selects RX2 yX2_copyFrom yX2_copyFrom]
def wsX4_fill_r2 : List Cond := [Cond.initialized RX2, Cond.code yX2_copyFrom cX2_copyFrom 3 none, Cond.fieldLink RX2 9 "GlassSpill$Scene" "settings" "[I", Cond.methodLink RX2 32 arraycopyName, Cond.native arraycopyName, Cond.static arraycopyName, Cond.initialized "java/lang/System", Cond.fieldLink RX2 15 "GlassSpill$Scene" "front" "[I", Cond.fieldLink RX2 18 "GlassSpill$Scene" "back" "[I", Cond.fieldLink RX2 21 "GlassSpill$Scene" "glass" "[Z", Cond.fieldLink RX2 25 "GlassSpill$Scene" "screenColour" "I", Cond.methodLink RX4 69 yX2_picture, Cond.instanceMethod yX2_picture, Cond.selects RX2 yX2_picture yX2_picture, Cond.code yX2_picture cX2_picture 2 (some (.array .int)), Cond.methodLink RX4 73 yX4_fillBetween, Cond.static yX4_fillBetween, Cond.code yX4_fillBetween cX4_fillBetween 10 (some .int), Cond.methodLink RX4 185 Lib.Math.min.name, Cond.static Lib.Math.min.name, Cond.initialized "java/lang/Math", Cond.code Lib.Math.min.name Lib.Math.min.code 2 (some .int), Cond.methodLink RX4 190 Lib.Math.max.name, Cond.static Lib.Math.max.name]
def wsX4_fill_r3 : List Cond := [Cond.code Lib.Math.max.name Lib.Math.max.code 2 (some .int)]
def wsX4_fill : List Cond := .code yX4_fill cX4_fill 5 (some .int) :: ((wsX4_fill_r1 ++ (wsX4_fill_r2 ++ wsX4_fill_r3)) ++ wsX40 ++ wsX00 ++ wsX20)
def wsX4_isRow : List Cond := .code yX4_isRow cX4_isRow 1 (some .boolean) :: ([])
def wsX4_read_r1 : List Cond := [Cond.fieldLink RX4 32 "GlassSpill" "pad" "LGlassSpill$Pad;", Cond.fieldLink RX4 39 "GlassSpill" "history" "LGlassSpill$History;", Cond.fieldLink RX4 10 "GlassSpill" "now" "LGlassSpill$Scene;", Cond.fieldLink RX4 88 "GlassSpill$Pad" "length" "I", Cond.methodLink RX4 77 yX4_isRow, Cond.static yX4_isRow, Cond.initialized RX4, Cond.code yX4_isRow cX4_isRow 1 (some .boolean), Cond.methodLink RX4 80 yX1_firstFault, Cond.instanceMethod yX1_firstFault, Cond.selects RX1 yX1_firstFault yX1_firstFault, Cond.initialized RX1, Cond.code yX1_firstFault cX1_firstFault 4 (some .int), Cond.fieldLink RX1 15 "GlassSpill$Pad" "length" "I", Cond.fieldLink RX1 9 "GlassSpill$Pad" "codes" "[I", Cond.methodLink RX1 21 yX1_partOf, Cond.static yX1_partOf, Cond.code yX1_partOf cX1_partOf 1 (some .int), Cond.methodLink RX4 51 yX0_remember, Cond.instanceMethod yX0_remember, Cond.selects RX0 yX0_remember yX0_remember, Cond.initialized RX0, Cond.code yX0_remember cX0_remember 3 none, Cond.fieldLink RX0 11 "GlassSpill$History" "states" "[LGlassSpill$Scene;"]
def wsX4_read_r2 : List Cond := [Cond.fieldLink RX0 17 "GlassSpill$History" "oldest" "I", Cond.fieldLink RX0 21 "GlassSpill$History" "size" "I", Cond.methodLink RX0 25 yJ9_floorMod_7cf53, Cond.static yJ9_floorMod_7cf53, Cond.initialized RJ9, Cond.code yJ9_floorMod_7cf53 cJ9_floorMod_7cf53 3 (some .int), Cond.methodLink RX0 31 yX2_copyFrom, Cond.instanceMethod yX2_copyFrom, Cond.selects RX2 yX2_copyFrom yX2_copyFrom, Cond.initialized RX2, Cond.code yX2_copyFrom cX2_copyFrom 3 none, Cond.fieldLink RX2 9 "GlassSpill$Scene" "settings" "[I", Cond.methodLink RX2 32 arraycopyName, Cond.native arraycopyName, Cond.static arraycopyName, Cond.initialized "java/lang/System", Cond.fieldLink RX2 15 "GlassSpill$Scene" "front" "[I", Cond.fieldLink RX2 18 "GlassSpill$Scene" "back" "[I", Cond.fieldLink RX2 21 "GlassSpill$Scene" "glass" "[Z", Cond.fieldLink RX2 25 "GlassSpill$Scene" "screenColour" "I", Cond.methodLink RX4 69 yX2_picture, Cond.instanceMethod yX2_picture, Cond.selects RX2 yX2_picture yX2_picture, Cond.code yX2_picture cX2_picture 2 (some (.array .int))]
def wsX4_read_r3 : List Cond := [Cond.methodLink RX4 84 yX1_paintOn, Cond.instanceMethod yX1_paintOn, Cond.selects RX1 yX1_paintOn yX1_paintOn, Cond.code yX1_paintOn cX1_paintOn 8 (some .int), Cond.static yX4_isPixel, Cond.code yX4_isPixel cX4_isPixel 1 (some .boolean)]
def wsX4_read : List Cond := .code yX4_read cX4_read 4 (some .int) :: ((wsX4_read_r1 ++ (wsX4_read_r2 ++ wsX4_read_r3)) ++ wsX40 ++ wsX10 ++ wsX00 ++ wsX20)
def wsX4_mark_r1 : List Cond := [Cond.fieldLink RX4 10 "GlassSpill" "now" "LGlassSpill$Scene;", Cond.fieldLink RX4 91 "GlassSpill$Scene" "glass" "[Z", Cond.fieldLink RX4 39 "GlassSpill" "history" "LGlassSpill$History;", Cond.methodLink RX4 66 yX4_isPixel, Cond.static yX4_isPixel, Cond.initialized RX4, Cond.code yX4_isPixel cX4_isPixel 1 (some .boolean), Cond.methodLink RX4 51 yX0_remember, Cond.instanceMethod yX0_remember, Cond.selects RX0 yX0_remember yX0_remember, Cond.initialized RX0, Cond.code yX0_remember cX0_remember 3 none, Cond.fieldLink RX0 11 "GlassSpill$History" "states" "[LGlassSpill$Scene;", Cond.fieldLink RX0 17 "GlassSpill$History" "oldest" "I", Cond.fieldLink RX0 21 "GlassSpill$History" "size" "I", Cond.methodLink RX0 25 yJ9_floorMod_7cf53, Cond.static yJ9_floorMod_7cf53, Cond.initialized RJ9, Cond.code yJ9_floorMod_7cf53 cJ9_floorMod_7cf53 3 (some .int), Cond.methodLink RX0 31 yX2_copyFrom, Cond.instanceMethod yX2_copyFrom, Cond.selects RX2 yX2_copyFrom yX2_copyFrom, Cond.initialized RX2, Cond.code yX2_copyFrom cX2_copyFrom 3 none]
def wsX4_mark_r2 : List Cond := [Cond.fieldLink RX2 9 "GlassSpill$Scene" "settings" "[I", Cond.methodLink RX2 32 arraycopyName, Cond.native arraycopyName, Cond.static arraycopyName, Cond.initialized "java/lang/System", Cond.fieldLink RX2 15 "GlassSpill$Scene" "front" "[I", Cond.fieldLink RX2 18 "GlassSpill$Scene" "back" "[I", Cond.fieldLink RX2 21 "GlassSpill$Scene" "glass" "[Z", Cond.fieldLink RX2 25 "GlassSpill$Scene" "screenColour" "I", Cond.methodLink RX4 95 yX2_marked, Cond.instanceMethod yX2_marked, Cond.selects RX2 yX2_marked yX2_marked, Cond.code yX2_marked cX2_marked 3 (some .int)]
def wsX4_mark : List Cond := .code yX4_mark cX4_mark 3 (some .int) :: ((wsX4_mark_r1 ++ wsX4_mark_r2) ++ wsX40 ++ wsX20 ++ wsX00)
def wsX4_sameColours : List Cond := .code yX4_sameColours cX4_sameColours 4 (some .int) :: ([])
def wsX4_keep_r1 : List Cond := [Cond.fieldLink RX4 39 "GlassSpill" "history" "LGlassSpill$History;", Cond.fieldLink RX4 10 "GlassSpill" "now" "LGlassSpill$Scene;", Cond.fieldLink RX4 22 "GlassSpill" "shown" "LGlassSpill$View;", Cond.fieldLink RX4 101 "GlassSpill$View" "composed" "[I", Cond.fieldLink RX4 105 "GlassSpill$Scene" "front" "[I", Cond.fieldLink RX4 91 "GlassSpill$Scene" "glass" "[Z", Cond.methodLink RX4 51 yX0_remember, Cond.instanceMethod yX0_remember, Cond.selects RX0 yX0_remember yX0_remember, Cond.initialized RX0, Cond.code yX0_remember cX0_remember 3 none, Cond.fieldLink RX0 11 "GlassSpill$History" "states" "[LGlassSpill$Scene;", Cond.fieldLink RX0 17 "GlassSpill$History" "oldest" "I", Cond.fieldLink RX0 21 "GlassSpill$History" "size" "I", Cond.methodLink RX0 25 yJ9_floorMod_7cf53, Cond.static yJ9_floorMod_7cf53, Cond.initialized RJ9, Cond.code yJ9_floorMod_7cf53 cJ9_floorMod_7cf53 3 (some .int), Cond.methodLink RX0 31 yX2_copyFrom, Cond.instanceMethod yX2_copyFrom, Cond.selects RX2 yX2_copyFrom yX2_copyFrom, Cond.initialized RX2, Cond.code yX2_copyFrom cX2_copyFrom 3 none, Cond.fieldLink RX2 9 "GlassSpill$Scene" "settings" "[I"]
def wsX4_keep_r2 : List Cond := [Cond.methodLink RX2 32 arraycopyName, Cond.native arraycopyName, Cond.static arraycopyName, Cond.initialized "java/lang/System", Cond.fieldLink RX2 15 "GlassSpill$Scene" "front" "[I", Cond.fieldLink RX2 18 "GlassSpill$Scene" "back" "[I", Cond.fieldLink RX2 21 "GlassSpill$Scene" "glass" "[Z", Cond.fieldLink RX2 25 "GlassSpill$Scene" "screenColour" "I", Cond.methodLink RX4 98 yX3_show, Cond.instanceMethod yX3_show, Cond.selects RX3 yX3_show yX3_show, Cond.initialized RX3, Cond.code yX3_show cX3_show 2 none, Cond.methodLink RX3 44 yX3_findOpaque, Cond.instanceMethod yX3_findOpaque, Cond.selects RX3 yX3_findOpaque yX3_findOpaque, Cond.code yX3_findOpaque cX3_findOpaque 5 none, Cond.fieldLink RX3 70 "GlassSpill$Scene" "settings" "[I", Cond.fieldLink RX3 9 "GlassSpill$View" "raw" "[I", Cond.fieldLink RX3 15 "GlassSpill$View" "opaque" "[I", Cond.methodLink RX3 73 yX2_distanceOf, Cond.instanceMethod yX2_distanceOf, Cond.selects RX2 yX2_distanceOf yX2_distanceOf, Cond.code yX2_distanceOf cX2_distanceOf 2 (some .int)]
def wsX4_keep_r3 : List Cond := [Cond.static yX4_isPixel, Cond.initialized RX4, Cond.code yX4_isPixel cX4_isPixel 1 (some .boolean), Cond.static yX4_distance, Cond.code yX4_distance cX4_distance 4 (some .int), Cond.methodLink RX4 199 Lib.Math.abs.name, Cond.static Lib.Math.abs.name, Cond.initialized "java/lang/Math", Cond.code Lib.Math.abs.name Lib.Math.abs.code 1 (some .int), Cond.methodLink RX4 196 yX4_part, Cond.static yX4_part, Cond.code yX4_part cX4_part 2 (some .int), Cond.methodLink RX4 193 yX4_partShift, Cond.static yX4_partShift, Cond.code yX4_partShift cX4_partShift 1 (some .int), Cond.methodLink RX3 76 yX3_rawOpaque, Cond.static yX3_rawOpaque, Cond.code yX3_rawOpaque cX3_rawOpaque 3 (some .int), Cond.methodLink RX3 80 yX3_closeHoles, Cond.instanceMethod yX3_closeHoles, Cond.selects RX3 yX3_closeHoles yX3_closeHoles, Cond.code yX3_closeHoles cX3_closeHoles 2 none, Cond.fieldLink RX3 33 "GlassSpill$View" "reached" "[Z", Cond.methodLink RX3 83 yX3_reachFromEdge]
def wsX4_keep_r4 : List Cond := [Cond.instanceMethod yX3_reachFromEdge, Cond.selects RX3 yX3_reachFromEdge yX3_reachFromEdge, Cond.code yX3_reachFromEdge cX3_reachFromEdge 3 none, Cond.fieldLink RX3 40 "GlassSpill$View" "queued" "I", Cond.fieldLink RX3 37 "GlassSpill$View" "queue" "[I", Cond.static yX4_isAtEdge, Cond.code yX4_isAtEdge cX4_isAtEdge 3 (some .boolean), Cond.methodLink RX3 90 yX3_reach, Cond.instanceMethod yX3_reach, Cond.selects RX3 yX3_reach yX3_reach, Cond.code yX3_reach cX3_reach 2 none, Cond.static yX4_beside, Cond.code yX4_beside cX4_beside 3 (some .int), Cond.methodLink RX3 48 yX3_findKinds, Cond.instanceMethod yX3_findKinds, Cond.selects RX3 yX3_findKinds yX3_findKinds, Cond.code yX3_findKinds cX3_findKinds 3 none, Cond.fieldLink RX3 18 "GlassSpill$View" "kinds" "[I", Cond.fieldLink RX3 54 "GlassSpill$Scene" "glass" "[Z", Cond.methodLink RX3 100 yX3_unmarkedKind, Cond.instanceMethod yX3_unmarkedKind, Cond.selects RX3 yX3_unmarkedKind yX3_unmarkedKind, Cond.code yX3_unmarkedKind cX3_unmarkedKind 2 (some .int), Cond.methodLink RX3 103 yX3_isOneBeside]
def wsX4_keep_r5 : List Cond := [Cond.instanceMethod yX3_isOneBeside, Cond.selects RX3 yX3_isOneBeside yX3_isOneBeside, Cond.code yX3_isOneBeside cX3_isOneBeside 5 (some .boolean), Cond.methodLink RX3 51 yX3_compose, Cond.instanceMethod yX3_compose, Cond.selects RX3 yX3_compose yX3_compose, Cond.code yX3_compose cX3_compose 4 none, Cond.fieldLink RX3 59 "GlassSpill$Scene" "screenColour" "I", Cond.fieldLink RX3 21 "GlassSpill$View" "spill" "[I", Cond.fieldLink RX3 107 "GlassSpill$Scene" "front" "[I", Cond.fieldLink RX3 24 "GlassSpill$View" "taken" "[I", Cond.fieldLink RX3 27 "GlassSpill$View" "cleaned" "[I", Cond.fieldLink RX3 30 "GlassSpill$View" "composed" "[I", Cond.fieldLink RX3 117 "GlassSpill$Scene" "back" "[I", Cond.static yX4_mainPart, Cond.code yX4_mainPart cX4_mainPart 3 (some .int), Cond.static yX4_spillIn, Cond.code yX4_spillIn cX4_spillIn 4 (some .int), Cond.methodLink RX4 190 Lib.Math.max.name, Cond.static Lib.Math.max.name, Cond.code Lib.Math.max.name Lib.Math.max.code 2 (some .int), Cond.methodLink RX3 110 yX3_share, Cond.static yX3_share, Cond.code yX3_share cX3_share 2 (some .int)]
def wsX4_keep_r6 : List Cond := [Cond.static yX4_composedColour, Cond.code yX4_composedColour cX4_composedColour 6 (some .int), Cond.methodLink RX4 108 yX4_sameColours, Cond.static yX4_sameColours, Cond.code yX4_sameColours cX4_sameColours 4 (some .int)]
def wsX4_keep : List Cond := .code yX4_keep cX4_keep 3 (some .int) :: ((wsX4_keep_r1 ++ (wsX4_keep_r2 ++ (wsX4_keep_r3 ++ (wsX4_keep_r4 ++ (wsX4_keep_r5 ++ wsX4_keep_r6))))) ++ wsX40 ++ wsX30 ++ wsX20 ++ wsX00)
def wsX4_pixel_r1 : List Cond := [Cond.fieldLink RX4 22 "GlassSpill" "shown" "LGlassSpill$View;", Cond.fieldLink RX4 10 "GlassSpill" "now" "LGlassSpill$Scene;", Cond.fieldLink RX4 105 "GlassSpill$Scene" "front" "[I", Cond.fieldLink RX4 112 "GlassSpill$Scene" "back" "[I", Cond.fieldLink RX4 119 "GlassSpill$View" "raw" "[I", Cond.fieldLink RX4 122 "GlassSpill$View" "opaque" "[I", Cond.fieldLink RX4 125 "GlassSpill$View" "kinds" "[I", Cond.fieldLink RX4 128 "GlassSpill$View" "spill" "[I", Cond.fieldLink RX4 131 "GlassSpill$View" "taken" "[I", Cond.fieldLink RX4 134 "GlassSpill$View" "cleaned" "[I", Cond.fieldLink RX4 101 "GlassSpill$View" "composed" "[I", Cond.methodLink RX4 66 yX4_isPixel, Cond.static yX4_isPixel, Cond.initialized RX4, Cond.code yX4_isPixel cX4_isPixel 1 (some .boolean), Cond.methodLink RX4 98 yX3_show, Cond.instanceMethod yX3_show, Cond.selects RX3 yX3_show yX3_show, Cond.initialized RX3, Cond.code yX3_show cX3_show 2 none, Cond.methodLink RX3 44 yX3_findOpaque, Cond.instanceMethod yX3_findOpaque, Cond.selects RX3 yX3_findOpaque yX3_findOpaque, Cond.code yX3_findOpaque cX3_findOpaque 5 none]
def wsX4_pixel_r2 : List Cond := [Cond.fieldLink RX3 70 "GlassSpill$Scene" "settings" "[I", Cond.fieldLink RX3 9 "GlassSpill$View" "raw" "[I", Cond.fieldLink RX3 15 "GlassSpill$View" "opaque" "[I", Cond.methodLink RX3 73 yX2_distanceOf, Cond.instanceMethod yX2_distanceOf, Cond.selects RX2 yX2_distanceOf yX2_distanceOf, Cond.initialized RX2, Cond.code yX2_distanceOf cX2_distanceOf 2 (some .int), Cond.fieldLink RX2 15 "GlassSpill$Scene" "front" "[I", Cond.fieldLink RX2 25 "GlassSpill$Scene" "screenColour" "I", Cond.static yX4_distance, Cond.code yX4_distance cX4_distance 4 (some .int), Cond.methodLink RX4 199 Lib.Math.abs.name, Cond.static Lib.Math.abs.name, Cond.initialized "java/lang/Math", Cond.code Lib.Math.abs.name Lib.Math.abs.code 1 (some .int), Cond.methodLink RX4 196 yX4_part, Cond.static yX4_part, Cond.code yX4_part cX4_part 2 (some .int), Cond.methodLink RX4 193 yX4_partShift, Cond.static yX4_partShift, Cond.code yX4_partShift cX4_partShift 1 (some .int), Cond.methodLink RX3 76 yX3_rawOpaque, Cond.static yX3_rawOpaque]
def wsX4_pixel_r3 : List Cond := [Cond.code yX3_rawOpaque cX3_rawOpaque 3 (some .int), Cond.methodLink RX3 80 yX3_closeHoles, Cond.instanceMethod yX3_closeHoles, Cond.selects RX3 yX3_closeHoles yX3_closeHoles, Cond.code yX3_closeHoles cX3_closeHoles 2 none, Cond.fieldLink RX3 33 "GlassSpill$View" "reached" "[Z", Cond.methodLink RX3 83 yX3_reachFromEdge, Cond.instanceMethod yX3_reachFromEdge, Cond.selects RX3 yX3_reachFromEdge yX3_reachFromEdge, Cond.code yX3_reachFromEdge cX3_reachFromEdge 3 none, Cond.fieldLink RX3 40 "GlassSpill$View" "queued" "I", Cond.fieldLink RX3 37 "GlassSpill$View" "queue" "[I", Cond.static yX4_isAtEdge, Cond.code yX4_isAtEdge cX4_isAtEdge 3 (some .boolean), Cond.methodLink RX3 90 yX3_reach, Cond.instanceMethod yX3_reach, Cond.selects RX3 yX3_reach yX3_reach, Cond.code yX3_reach cX3_reach 2 none, Cond.static yX4_beside, Cond.code yX4_beside cX4_beside 3 (some .int), Cond.methodLink RX3 48 yX3_findKinds, Cond.instanceMethod yX3_findKinds, Cond.selects RX3 yX3_findKinds yX3_findKinds, Cond.code yX3_findKinds cX3_findKinds 3 none]
def wsX4_pixel_r4 : List Cond := [Cond.fieldLink RX3 18 "GlassSpill$View" "kinds" "[I", Cond.fieldLink RX3 54 "GlassSpill$Scene" "glass" "[Z", Cond.methodLink RX3 100 yX3_unmarkedKind, Cond.instanceMethod yX3_unmarkedKind, Cond.selects RX3 yX3_unmarkedKind yX3_unmarkedKind, Cond.code yX3_unmarkedKind cX3_unmarkedKind 2 (some .int), Cond.methodLink RX3 103 yX3_isOneBeside, Cond.instanceMethod yX3_isOneBeside, Cond.selects RX3 yX3_isOneBeside yX3_isOneBeside, Cond.code yX3_isOneBeside cX3_isOneBeside 5 (some .boolean), Cond.methodLink RX3 51 yX3_compose, Cond.instanceMethod yX3_compose, Cond.selects RX3 yX3_compose yX3_compose, Cond.code yX3_compose cX3_compose 4 none, Cond.fieldLink RX3 59 "GlassSpill$Scene" "screenColour" "I", Cond.fieldLink RX3 21 "GlassSpill$View" "spill" "[I", Cond.fieldLink RX3 107 "GlassSpill$Scene" "front" "[I", Cond.fieldLink RX3 24 "GlassSpill$View" "taken" "[I", Cond.fieldLink RX3 27 "GlassSpill$View" "cleaned" "[I", Cond.fieldLink RX3 30 "GlassSpill$View" "composed" "[I", Cond.fieldLink RX3 117 "GlassSpill$Scene" "back" "[I", Cond.static yX4_mainPart, Cond.code yX4_mainPart cX4_mainPart 3 (some .int), Cond.static yX4_spillIn]
def wsX4_pixel_r5 : List Cond := [Cond.code yX4_spillIn cX4_spillIn 4 (some .int), Cond.methodLink RX4 190 Lib.Math.max.name, Cond.static Lib.Math.max.name, Cond.code Lib.Math.max.name Lib.Math.max.code 2 (some .int), Cond.methodLink RX3 110 yX3_share, Cond.static yX3_share, Cond.code yX3_share cX3_share 2 (some .int), Cond.static yX4_composedColour, Cond.code yX4_composedColour cX4_composedColour 6 (some .int), Cond.methodLink RX4 115 yX2_distanceOf]
def wsX4_pixel : List Cond := .code yX4_pixel cX4_pixel 3 (some .int) :: ((wsX4_pixel_r1 ++ (wsX4_pixel_r2 ++ (wsX4_pixel_r3 ++ (wsX4_pixel_r4 ++ wsX4_pixel_r5)))) ++ wsX40 ++ wsX20 ++ wsX30)
def wsX4_sum : List Cond := .code yX4_sum cX4_sum 6 (some .int) :: ([])
def wsX4_count_r1 : List Cond := [Cond.fieldLink RX4 10 "GlassSpill" "now" "LGlassSpill$Scene;", Cond.fieldLink RX4 137 "GlassSpill$Scene" "settings" "[I", Cond.fieldLink RX4 22 "GlassSpill" "shown" "LGlassSpill$View;", Cond.fieldLink RX4 62 "GlassSpill$Scene" "screenColour" "I", Cond.fieldLink RX4 122 "GlassSpill$View" "opaque" "[I", Cond.fieldLink RX4 128 "GlassSpill$View" "spill" "[I", Cond.fieldLink RX4 131 "GlassSpill$View" "taken" "[I", Cond.fieldLink RX4 101 "GlassSpill$View" "composed" "[I", Cond.fieldLink RX4 112 "GlassSpill$Scene" "back" "[I", Cond.fieldLink RX4 105 "GlassSpill$Scene" "front" "[I", Cond.fieldLink RX4 32 "GlassSpill" "pad" "LGlassSpill$Pad;", Cond.fieldLink RX4 88 "GlassSpill$Pad" "length" "I", Cond.fieldLink RX4 39 "GlassSpill" "history" "LGlassSpill$History;", Cond.fieldLink RX4 150 "GlassSpill$History" "size" "I", Cond.methodLink RX4 98 yX3_show, Cond.instanceMethod yX3_show, Cond.selects RX3 yX3_show yX3_show, Cond.initialized RX3, Cond.code yX3_show cX3_show 2 none, Cond.methodLink RX3 44 yX3_findOpaque, Cond.instanceMethod yX3_findOpaque, Cond.selects RX3 yX3_findOpaque yX3_findOpaque, Cond.code yX3_findOpaque cX3_findOpaque 5 none, Cond.fieldLink RX3 70 "GlassSpill$Scene" "settings" "[I"]
def wsX4_count_r2 : List Cond := [Cond.fieldLink RX3 9 "GlassSpill$View" "raw" "[I", Cond.fieldLink RX3 15 "GlassSpill$View" "opaque" "[I", Cond.methodLink RX3 73 yX2_distanceOf, Cond.instanceMethod yX2_distanceOf, Cond.selects RX2 yX2_distanceOf yX2_distanceOf, Cond.initialized RX2, Cond.code yX2_distanceOf cX2_distanceOf 2 (some .int), Cond.fieldLink RX2 15 "GlassSpill$Scene" "front" "[I", Cond.fieldLink RX2 25 "GlassSpill$Scene" "screenColour" "I", Cond.static yX4_isPixel, Cond.initialized RX4, Cond.code yX4_isPixel cX4_isPixel 1 (some .boolean), Cond.static yX4_distance, Cond.code yX4_distance cX4_distance 4 (some .int), Cond.methodLink RX4 199 Lib.Math.abs.name, Cond.static Lib.Math.abs.name, Cond.initialized "java/lang/Math", Cond.code Lib.Math.abs.name Lib.Math.abs.code 1 (some .int), Cond.methodLink RX4 196 yX4_part, Cond.static yX4_part, Cond.code yX4_part cX4_part 2 (some .int), Cond.methodLink RX4 193 yX4_partShift, Cond.static yX4_partShift, Cond.code yX4_partShift cX4_partShift 1 (some .int)]
def wsX4_count_r3 : List Cond := [Cond.methodLink RX3 76 yX3_rawOpaque, Cond.static yX3_rawOpaque, Cond.code yX3_rawOpaque cX3_rawOpaque 3 (some .int), Cond.methodLink RX3 80 yX3_closeHoles, Cond.instanceMethod yX3_closeHoles, Cond.selects RX3 yX3_closeHoles yX3_closeHoles, Cond.code yX3_closeHoles cX3_closeHoles 2 none, Cond.fieldLink RX3 33 "GlassSpill$View" "reached" "[Z", Cond.methodLink RX3 83 yX3_reachFromEdge, Cond.instanceMethod yX3_reachFromEdge, Cond.selects RX3 yX3_reachFromEdge yX3_reachFromEdge, Cond.code yX3_reachFromEdge cX3_reachFromEdge 3 none, Cond.fieldLink RX3 40 "GlassSpill$View" "queued" "I", Cond.fieldLink RX3 37 "GlassSpill$View" "queue" "[I", Cond.static yX4_isAtEdge, Cond.code yX4_isAtEdge cX4_isAtEdge 3 (some .boolean), Cond.methodLink RX3 90 yX3_reach, Cond.instanceMethod yX3_reach, Cond.selects RX3 yX3_reach yX3_reach, Cond.code yX3_reach cX3_reach 2 none, Cond.static yX4_beside, Cond.code yX4_beside cX4_beside 3 (some .int), Cond.methodLink RX3 48 yX3_findKinds, Cond.instanceMethod yX3_findKinds]
def wsX4_count_r4 : List Cond := [Cond.selects RX3 yX3_findKinds yX3_findKinds, Cond.code yX3_findKinds cX3_findKinds 3 none, Cond.fieldLink RX3 18 "GlassSpill$View" "kinds" "[I", Cond.fieldLink RX3 54 "GlassSpill$Scene" "glass" "[Z", Cond.methodLink RX3 100 yX3_unmarkedKind, Cond.instanceMethod yX3_unmarkedKind, Cond.selects RX3 yX3_unmarkedKind yX3_unmarkedKind, Cond.code yX3_unmarkedKind cX3_unmarkedKind 2 (some .int), Cond.methodLink RX3 103 yX3_isOneBeside, Cond.instanceMethod yX3_isOneBeside, Cond.selects RX3 yX3_isOneBeside yX3_isOneBeside, Cond.code yX3_isOneBeside cX3_isOneBeside 5 (some .boolean), Cond.methodLink RX3 51 yX3_compose, Cond.instanceMethod yX3_compose, Cond.selects RX3 yX3_compose yX3_compose, Cond.code yX3_compose cX3_compose 4 none, Cond.fieldLink RX3 59 "GlassSpill$Scene" "screenColour" "I", Cond.fieldLink RX3 21 "GlassSpill$View" "spill" "[I", Cond.fieldLink RX3 107 "GlassSpill$Scene" "front" "[I", Cond.fieldLink RX3 24 "GlassSpill$View" "taken" "[I", Cond.fieldLink RX3 27 "GlassSpill$View" "cleaned" "[I", Cond.fieldLink RX3 30 "GlassSpill$View" "composed" "[I", Cond.fieldLink RX3 117 "GlassSpill$Scene" "back" "[I", Cond.static yX4_mainPart]
def wsX4_count_r5 : List Cond := [Cond.code yX4_mainPart cX4_mainPart 3 (some .int), Cond.static yX4_spillIn, Cond.code yX4_spillIn cX4_spillIn 4 (some .int), Cond.methodLink RX4 190 Lib.Math.max.name, Cond.static Lib.Math.max.name, Cond.code Lib.Math.max.name Lib.Math.max.code 2 (some .int), Cond.methodLink RX3 110 yX3_share, Cond.static yX3_share, Cond.code yX3_share cX3_share 2 (some .int), Cond.static yX4_composedColour, Cond.code yX4_composedColour cX4_composedColour 6 (some .int), Cond.methodLink RX4 140 yX3_ofKind, Cond.instanceMethod yX3_ofKind, Cond.selects RX3 yX3_ofKind yX3_ofKind, Cond.code yX3_ofKind cX3_ofKind 4 (some .int), Cond.methodLink RX4 143 yX4_sum, Cond.static yX4_sum, Cond.code yX4_sum cX4_sum 6 (some .int), Cond.methodLink RX4 147 yX3_closed, Cond.instanceMethod yX3_closed, Cond.selects RX3 yX3_closed yX3_closed, Cond.code yX3_closed cX3_closed 3 (some .int), Cond.methodLink RX4 108 yX4_sameColours, Cond.static yX4_sameColours]
def wsX4_count_r6 : List Cond := [Cond.code yX4_sameColours cX4_sameColours 4 (some .int), Cond.methodLink RX4 95 yX2_marked, Cond.instanceMethod yX2_marked, Cond.selects RX2 yX2_marked yX2_marked, Cond.code yX2_marked cX2_marked 3 (some .int), Cond.fieldLink RX2 21 "GlassSpill$Scene" "glass" "[Z"]
def wsX4_count : List Cond := .code yX4_count cX4_count 2 (some .int) :: ((wsX4_count_r1 ++ (wsX4_count_r2 ++ (wsX4_count_r3 ++ (wsX4_count_r4 ++ (wsX4_count_r5 ++ wsX4_count_r6))))) ++ wsX40 ++ wsX20 ++ wsX30 ++ wsX10 ++ wsX00)
def wsX4_row_r1 : List Cond := [Cond.fieldLink RX4 22 "GlassSpill" "shown" "LGlassSpill$View;", Cond.fieldLink RX4 10 "GlassSpill" "now" "LGlassSpill$Scene;", Cond.fieldLink RX4 125 "GlassSpill$View" "kinds" "[I", Cond.methodLink RX4 77 yX4_isRow, Cond.static yX4_isRow, Cond.initialized RX4, Cond.code yX4_isRow cX4_isRow 1 (some .boolean), Cond.methodLink RX4 98 yX3_show, Cond.instanceMethod yX3_show, Cond.selects RX3 yX3_show yX3_show, Cond.initialized RX3, Cond.code yX3_show cX3_show 2 none, Cond.methodLink RX3 44 yX3_findOpaque, Cond.instanceMethod yX3_findOpaque, Cond.selects RX3 yX3_findOpaque yX3_findOpaque, Cond.code yX3_findOpaque cX3_findOpaque 5 none, Cond.fieldLink RX3 70 "GlassSpill$Scene" "settings" "[I", Cond.fieldLink RX3 9 "GlassSpill$View" "raw" "[I", Cond.fieldLink RX3 15 "GlassSpill$View" "opaque" "[I", Cond.methodLink RX3 73 yX2_distanceOf, Cond.instanceMethod yX2_distanceOf, Cond.selects RX2 yX2_distanceOf yX2_distanceOf, Cond.initialized RX2, Cond.code yX2_distanceOf cX2_distanceOf 2 (some .int)]
def wsX4_row_r2 : List Cond := [Cond.fieldLink RX2 15 "GlassSpill$Scene" "front" "[I", Cond.fieldLink RX2 25 "GlassSpill$Scene" "screenColour" "I", Cond.static yX4_isPixel, Cond.code yX4_isPixel cX4_isPixel 1 (some .boolean), Cond.static yX4_distance, Cond.code yX4_distance cX4_distance 4 (some .int), Cond.methodLink RX4 199 Lib.Math.abs.name, Cond.static Lib.Math.abs.name, Cond.initialized "java/lang/Math", Cond.code Lib.Math.abs.name Lib.Math.abs.code 1 (some .int), Cond.methodLink RX4 196 yX4_part, Cond.static yX4_part, Cond.code yX4_part cX4_part 2 (some .int), Cond.methodLink RX4 193 yX4_partShift, Cond.static yX4_partShift, Cond.code yX4_partShift cX4_partShift 1 (some .int), Cond.methodLink RX3 76 yX3_rawOpaque, Cond.static yX3_rawOpaque, Cond.code yX3_rawOpaque cX3_rawOpaque 3 (some .int), Cond.methodLink RX3 80 yX3_closeHoles, Cond.instanceMethod yX3_closeHoles, Cond.selects RX3 yX3_closeHoles yX3_closeHoles, Cond.code yX3_closeHoles cX3_closeHoles 2 none, Cond.fieldLink RX3 33 "GlassSpill$View" "reached" "[Z"]
def wsX4_row_r3 : List Cond := [Cond.methodLink RX3 83 yX3_reachFromEdge, Cond.instanceMethod yX3_reachFromEdge, Cond.selects RX3 yX3_reachFromEdge yX3_reachFromEdge, Cond.code yX3_reachFromEdge cX3_reachFromEdge 3 none, Cond.fieldLink RX3 40 "GlassSpill$View" "queued" "I", Cond.fieldLink RX3 37 "GlassSpill$View" "queue" "[I", Cond.static yX4_isAtEdge, Cond.code yX4_isAtEdge cX4_isAtEdge 3 (some .boolean), Cond.methodLink RX3 90 yX3_reach, Cond.instanceMethod yX3_reach, Cond.selects RX3 yX3_reach yX3_reach, Cond.code yX3_reach cX3_reach 2 none, Cond.static yX4_beside, Cond.code yX4_beside cX4_beside 3 (some .int), Cond.methodLink RX3 48 yX3_findKinds, Cond.instanceMethod yX3_findKinds, Cond.selects RX3 yX3_findKinds yX3_findKinds, Cond.code yX3_findKinds cX3_findKinds 3 none, Cond.fieldLink RX3 18 "GlassSpill$View" "kinds" "[I", Cond.fieldLink RX3 54 "GlassSpill$Scene" "glass" "[Z", Cond.methodLink RX3 100 yX3_unmarkedKind, Cond.instanceMethod yX3_unmarkedKind, Cond.selects RX3 yX3_unmarkedKind yX3_unmarkedKind, Cond.code yX3_unmarkedKind cX3_unmarkedKind 2 (some .int)]
def wsX4_row_r4 : List Cond := [Cond.methodLink RX3 103 yX3_isOneBeside, Cond.instanceMethod yX3_isOneBeside, Cond.selects RX3 yX3_isOneBeside yX3_isOneBeside, Cond.code yX3_isOneBeside cX3_isOneBeside 5 (some .boolean), Cond.methodLink RX3 51 yX3_compose, Cond.instanceMethod yX3_compose, Cond.selects RX3 yX3_compose yX3_compose, Cond.code yX3_compose cX3_compose 4 none, Cond.fieldLink RX3 59 "GlassSpill$Scene" "screenColour" "I", Cond.fieldLink RX3 21 "GlassSpill$View" "spill" "[I", Cond.fieldLink RX3 107 "GlassSpill$Scene" "front" "[I", Cond.fieldLink RX3 24 "GlassSpill$View" "taken" "[I", Cond.fieldLink RX3 27 "GlassSpill$View" "cleaned" "[I", Cond.fieldLink RX3 30 "GlassSpill$View" "composed" "[I", Cond.fieldLink RX3 117 "GlassSpill$Scene" "back" "[I", Cond.static yX4_mainPart, Cond.code yX4_mainPart cX4_mainPart 3 (some .int), Cond.static yX4_spillIn, Cond.code yX4_spillIn cX4_spillIn 4 (some .int), Cond.methodLink RX4 190 Lib.Math.max.name, Cond.static Lib.Math.max.name, Cond.code Lib.Math.max.name Lib.Math.max.code 2 (some .int), Cond.methodLink RX3 110 yX3_share, Cond.static yX3_share]
def wsX4_row_r5 : List Cond := [Cond.code yX3_share cX3_share 2 (some .int), Cond.static yX4_composedColour, Cond.code yX4_composedColour cX4_composedColour 6 (some .int)]
def wsX4_row : List Cond := .code yX4_row cX4_row 5 (some .int) :: ((wsX4_row_r1 ++ (wsX4_row_r2 ++ (wsX4_row_r3 ++ (wsX4_row_r4 ++ wsX4_row_r5)))) ++ wsX40 ++ wsX30 ++ wsX20)
def wsX4_bestScreen_r1 : List Cond := [Cond.fieldLink RX4 16 "GlassSpill" "trial" "LGlassSpill$Scene;", Cond.fieldLink RX4 10 "GlassSpill" "now" "LGlassSpill$Scene;", Cond.fieldLink RX4 105 "GlassSpill$Scene" "front" "[I", Cond.fieldLink RX4 62 "GlassSpill$Scene" "screenColour" "I", Cond.fieldLink RX4 26 "GlassSpill" "trialView" "LGlassSpill$View;", Cond.methodLink RX4 153 yX2_copyFrom, Cond.instanceMethod yX2_copyFrom, Cond.selects RX2 yX2_copyFrom yX2_copyFrom, Cond.initialized RX2, Cond.code yX2_copyFrom cX2_copyFrom 3 none, Cond.fieldLink RX2 9 "GlassSpill$Scene" "settings" "[I", Cond.methodLink RX2 32 arraycopyName, Cond.native arraycopyName, Cond.static arraycopyName, Cond.initialized "java/lang/System", Cond.fieldLink RX2 15 "GlassSpill$Scene" "front" "[I", Cond.fieldLink RX2 18 "GlassSpill$Scene" "back" "[I", Cond.fieldLink RX2 21 "GlassSpill$Scene" "glass" "[Z", Cond.fieldLink RX2 25 "GlassSpill$Scene" "screenColour" "I", Cond.methodLink RX4 156 yX3_clearPixels, Cond.instanceMethod yX3_clearPixels, Cond.selects RX3 yX3_clearPixels yX3_clearPixels, Cond.initialized RX3, Cond.code yX3_clearPixels cX3_clearPixels 4 (some .int)]
def wsX4_bestScreen_r2 : List Cond := [Cond.fieldLink RX3 15 "GlassSpill$View" "opaque" "[I", Cond.fieldLink RX3 54 "GlassSpill$Scene" "glass" "[Z", Cond.methodLink RX3 44 yX3_findOpaque, Cond.instanceMethod yX3_findOpaque, Cond.selects RX3 yX3_findOpaque yX3_findOpaque, Cond.code yX3_findOpaque cX3_findOpaque 5 none, Cond.fieldLink RX3 70 "GlassSpill$Scene" "settings" "[I", Cond.fieldLink RX3 9 "GlassSpill$View" "raw" "[I", Cond.methodLink RX3 73 yX2_distanceOf, Cond.instanceMethod yX2_distanceOf, Cond.selects RX2 yX2_distanceOf yX2_distanceOf, Cond.code yX2_distanceOf cX2_distanceOf 2 (some .int), Cond.static yX4_isPixel, Cond.initialized RX4, Cond.code yX4_isPixel cX4_isPixel 1 (some .boolean), Cond.static yX4_distance, Cond.code yX4_distance cX4_distance 4 (some .int), Cond.methodLink RX4 199 Lib.Math.abs.name, Cond.static Lib.Math.abs.name, Cond.initialized "java/lang/Math", Cond.code Lib.Math.abs.name Lib.Math.abs.code 1 (some .int), Cond.methodLink RX4 196 yX4_part, Cond.static yX4_part, Cond.code yX4_part cX4_part 2 (some .int)]
def wsX4_bestScreen_r3 : List Cond := [Cond.methodLink RX4 193 yX4_partShift, Cond.static yX4_partShift, Cond.code yX4_partShift cX4_partShift 1 (some .int), Cond.methodLink RX3 76 yX3_rawOpaque, Cond.static yX3_rawOpaque, Cond.code yX3_rawOpaque cX3_rawOpaque 3 (some .int), Cond.methodLink RX3 80 yX3_closeHoles, Cond.instanceMethod yX3_closeHoles, Cond.selects RX3 yX3_closeHoles yX3_closeHoles, Cond.code yX3_closeHoles cX3_closeHoles 2 none, Cond.fieldLink RX3 33 "GlassSpill$View" "reached" "[Z", Cond.methodLink RX3 83 yX3_reachFromEdge, Cond.instanceMethod yX3_reachFromEdge, Cond.selects RX3 yX3_reachFromEdge yX3_reachFromEdge, Cond.code yX3_reachFromEdge cX3_reachFromEdge 3 none, Cond.fieldLink RX3 40 "GlassSpill$View" "queued" "I", Cond.fieldLink RX3 37 "GlassSpill$View" "queue" "[I", Cond.static yX4_isAtEdge, Cond.code yX4_isAtEdge cX4_isAtEdge 3 (some .boolean), Cond.methodLink RX3 90 yX3_reach, Cond.instanceMethod yX3_reach, Cond.selects RX3 yX3_reach yX3_reach, Cond.code yX3_reach cX3_reach 2 none, Cond.static yX4_beside]
def wsX4_bestScreen_r4 : List Cond := [Cond.code yX4_beside cX4_beside 3 (some .int)]
def wsX4_bestScreen : List Cond := .code yX4_bestScreen cX4_bestScreen 6 (some .int) :: ((wsX4_bestScreen_r1 ++ (wsX4_bestScreen_r2 ++ (wsX4_bestScreen_r3 ++ wsX4_bestScreen_r4))) ++ wsX40 ++ wsX20 ++ wsX30)
def wsX4_leastNear_r1 : List Cond := [Cond.fieldLink RX4 10 "GlassSpill" "now" "LGlassSpill$Scene;", Cond.fieldLink RX4 137 "GlassSpill$Scene" "settings" "[I", Cond.methodLink RX4 66 yX4_isPixel, Cond.static yX4_isPixel, Cond.initialized RX4, Cond.code yX4_isPixel cX4_isPixel 1 (some .boolean), Cond.methodLink RX4 115 yX2_distanceOf, Cond.instanceMethod yX2_distanceOf, Cond.selects RX2 yX2_distanceOf yX2_distanceOf, Cond.initialized RX2, Cond.code yX2_distanceOf cX2_distanceOf 2 (some .int), Cond.fieldLink RX2 15 "GlassSpill$Scene" "front" "[I", Cond.fieldLink RX2 25 "GlassSpill$Scene" "screenColour" "I", Cond.static yX4_distance, Cond.code yX4_distance cX4_distance 4 (some .int), Cond.methodLink RX4 199 Lib.Math.abs.name, Cond.static Lib.Math.abs.name, Cond.initialized "java/lang/Math", Cond.code Lib.Math.abs.name Lib.Math.abs.code 1 (some .int), Cond.methodLink RX4 196 yX4_part, Cond.static yX4_part, Cond.code yX4_part cX4_part 2 (some .int), Cond.methodLink RX4 193 yX4_partShift, Cond.static yX4_partShift]
def wsX4_leastNear_r2 : List Cond := [Cond.code yX4_partShift cX4_partShift 1 (some .int)]
def wsX4_leastNear : List Cond := .code yX4_leastNear cX4_leastNear 3 (some .int) :: ((wsX4_leastNear_r1 ++ wsX4_leastNear_r2) ++ wsX40 ++ wsX20)
def wsX4_ifSet_r1 : List Cond := [Cond.fieldLink RX4 16 "GlassSpill" "trial" "LGlassSpill$Scene;", Cond.fieldLink RX4 10 "GlassSpill" "now" "LGlassSpill$Scene;", Cond.fieldLink RX4 22 "GlassSpill" "shown" "LGlassSpill$View;", Cond.fieldLink RX4 26 "GlassSpill" "trialView" "LGlassSpill$View;", Cond.fieldLink RX4 101 "GlassSpill$View" "composed" "[I", Cond.methodLink RX4 47 yX4_errorOfSetting, Cond.instanceMethod yX4_errorOfSetting, Cond.selects RX4 yX4_errorOfSetting yX4_errorOfSetting, Cond.initialized RX4, Cond.code yX4_errorOfSetting cX4_errorOfSetting 5 (some .int), Cond.fieldLink RX4 180 "GlassSpill" "HIGHEST_VALUES" "[I", Cond.fieldLink RX4 137 "GlassSpill$Scene" "settings" "[I", Cond.methodLink RX4 177 yX4_isSetting, Cond.static yX4_isSetting, Cond.code yX4_isSetting cX4_isSetting 1 (some .boolean), Cond.methodLink RX4 153 yX2_copyFrom, Cond.instanceMethod yX2_copyFrom, Cond.selects RX2 yX2_copyFrom yX2_copyFrom, Cond.initialized RX2, Cond.code yX2_copyFrom cX2_copyFrom 3 none, Cond.fieldLink RX2 9 "GlassSpill$Scene" "settings" "[I", Cond.methodLink RX2 32 arraycopyName, Cond.native arraycopyName, Cond.static arraycopyName]
def wsX4_ifSet_r2 : List Cond := [Cond.initialized "java/lang/System", Cond.fieldLink RX2 15 "GlassSpill$Scene" "front" "[I", Cond.fieldLink RX2 18 "GlassSpill$Scene" "back" "[I", Cond.fieldLink RX2 21 "GlassSpill$Scene" "glass" "[Z", Cond.fieldLink RX2 25 "GlassSpill$Scene" "screenColour" "I", Cond.methodLink RX4 55 yX2_changeSetting, Cond.instanceMethod yX2_changeSetting, Cond.selects RX2 yX2_changeSetting yX2_changeSetting, Cond.code yX2_changeSetting cX2_changeSetting 4 (some .int), Cond.methodLink RX4 98 yX3_show, Cond.instanceMethod yX3_show, Cond.selects RX3 yX3_show yX3_show, Cond.initialized RX3, Cond.code yX3_show cX3_show 2 none, Cond.methodLink RX3 44 yX3_findOpaque, Cond.instanceMethod yX3_findOpaque, Cond.selects RX3 yX3_findOpaque yX3_findOpaque, Cond.code yX3_findOpaque cX3_findOpaque 5 none, Cond.fieldLink RX3 70 "GlassSpill$Scene" "settings" "[I", Cond.fieldLink RX3 9 "GlassSpill$View" "raw" "[I", Cond.fieldLink RX3 15 "GlassSpill$View" "opaque" "[I", Cond.methodLink RX3 73 yX2_distanceOf, Cond.instanceMethod yX2_distanceOf, Cond.selects RX2 yX2_distanceOf yX2_distanceOf]
def wsX4_ifSet_r3 : List Cond := [Cond.code yX2_distanceOf cX2_distanceOf 2 (some .int), Cond.static yX4_isPixel, Cond.code yX4_isPixel cX4_isPixel 1 (some .boolean), Cond.static yX4_distance, Cond.code yX4_distance cX4_distance 4 (some .int), Cond.methodLink RX4 199 Lib.Math.abs.name, Cond.static Lib.Math.abs.name, Cond.initialized "java/lang/Math", Cond.code Lib.Math.abs.name Lib.Math.abs.code 1 (some .int), Cond.methodLink RX4 196 yX4_part, Cond.static yX4_part, Cond.code yX4_part cX4_part 2 (some .int), Cond.methodLink RX4 193 yX4_partShift, Cond.static yX4_partShift, Cond.code yX4_partShift cX4_partShift 1 (some .int), Cond.methodLink RX3 76 yX3_rawOpaque, Cond.static yX3_rawOpaque, Cond.code yX3_rawOpaque cX3_rawOpaque 3 (some .int), Cond.methodLink RX3 80 yX3_closeHoles, Cond.instanceMethod yX3_closeHoles, Cond.selects RX3 yX3_closeHoles yX3_closeHoles, Cond.code yX3_closeHoles cX3_closeHoles 2 none, Cond.fieldLink RX3 33 "GlassSpill$View" "reached" "[Z", Cond.methodLink RX3 83 yX3_reachFromEdge]
def wsX4_ifSet_r4 : List Cond := [Cond.instanceMethod yX3_reachFromEdge, Cond.selects RX3 yX3_reachFromEdge yX3_reachFromEdge, Cond.code yX3_reachFromEdge cX3_reachFromEdge 3 none, Cond.fieldLink RX3 40 "GlassSpill$View" "queued" "I", Cond.fieldLink RX3 37 "GlassSpill$View" "queue" "[I", Cond.static yX4_isAtEdge, Cond.code yX4_isAtEdge cX4_isAtEdge 3 (some .boolean), Cond.methodLink RX3 90 yX3_reach, Cond.instanceMethod yX3_reach, Cond.selects RX3 yX3_reach yX3_reach, Cond.code yX3_reach cX3_reach 2 none, Cond.static yX4_beside, Cond.code yX4_beside cX4_beside 3 (some .int), Cond.methodLink RX3 48 yX3_findKinds, Cond.instanceMethod yX3_findKinds, Cond.selects RX3 yX3_findKinds yX3_findKinds, Cond.code yX3_findKinds cX3_findKinds 3 none, Cond.fieldLink RX3 18 "GlassSpill$View" "kinds" "[I", Cond.fieldLink RX3 54 "GlassSpill$Scene" "glass" "[Z", Cond.methodLink RX3 100 yX3_unmarkedKind, Cond.instanceMethod yX3_unmarkedKind, Cond.selects RX3 yX3_unmarkedKind yX3_unmarkedKind, Cond.code yX3_unmarkedKind cX3_unmarkedKind 2 (some .int), Cond.methodLink RX3 103 yX3_isOneBeside]
def wsX4_ifSet_r5 : List Cond := [Cond.instanceMethod yX3_isOneBeside, Cond.selects RX3 yX3_isOneBeside yX3_isOneBeside, Cond.code yX3_isOneBeside cX3_isOneBeside 5 (some .boolean), Cond.methodLink RX3 51 yX3_compose, Cond.instanceMethod yX3_compose, Cond.selects RX3 yX3_compose yX3_compose, Cond.code yX3_compose cX3_compose 4 none, Cond.fieldLink RX3 59 "GlassSpill$Scene" "screenColour" "I", Cond.fieldLink RX3 21 "GlassSpill$View" "spill" "[I", Cond.fieldLink RX3 107 "GlassSpill$Scene" "front" "[I", Cond.fieldLink RX3 24 "GlassSpill$View" "taken" "[I", Cond.fieldLink RX3 27 "GlassSpill$View" "cleaned" "[I", Cond.fieldLink RX3 30 "GlassSpill$View" "composed" "[I", Cond.fieldLink RX3 117 "GlassSpill$Scene" "back" "[I", Cond.static yX4_mainPart, Cond.code yX4_mainPart cX4_mainPart 3 (some .int), Cond.static yX4_spillIn, Cond.code yX4_spillIn cX4_spillIn 4 (some .int), Cond.methodLink RX4 190 Lib.Math.max.name, Cond.static Lib.Math.max.name, Cond.code Lib.Math.max.name Lib.Math.max.code 2 (some .int), Cond.methodLink RX3 110 yX3_share, Cond.static yX3_share, Cond.code yX3_share cX3_share 2 (some .int)]
def wsX4_ifSet_r6 : List Cond := [Cond.static yX4_composedColour, Cond.code yX4_composedColour cX4_composedColour 6 (some .int), Cond.methodLink RX4 108 yX4_sameColours, Cond.static yX4_sameColours, Cond.code yX4_sameColours cX4_sameColours 4 (some .int)]
def wsX4_ifSet : List Cond := .code yX4_ifSet cX4_ifSet 4 (some .int) :: ((wsX4_ifSet_r1 ++ (wsX4_ifSet_r2 ++ (wsX4_ifSet_r3 ++ (wsX4_ifSet_r4 ++ (wsX4_ifSet_r5 ++ wsX4_ifSet_r6))))) ++ wsX40 ++ wsX30 ++ wsX20)
def wsX4_bestShare_r1 : List Cond := [Cond.fieldLink RX4 16 "GlassSpill" "trial" "LGlassSpill$Scene;", Cond.fieldLink RX4 10 "GlassSpill" "now" "LGlassSpill$Scene;", Cond.fieldLink RX4 26 "GlassSpill" "trialView" "LGlassSpill$View;", Cond.methodLink RX4 153 yX2_copyFrom, Cond.instanceMethod yX2_copyFrom, Cond.selects RX2 yX2_copyFrom yX2_copyFrom, Cond.initialized RX2, Cond.code yX2_copyFrom cX2_copyFrom 3 none, Cond.fieldLink RX2 9 "GlassSpill$Scene" "settings" "[I", Cond.methodLink RX2 32 arraycopyName, Cond.native arraycopyName, Cond.static arraycopyName, Cond.initialized "java/lang/System", Cond.fieldLink RX2 15 "GlassSpill$Scene" "front" "[I", Cond.fieldLink RX2 18 "GlassSpill$Scene" "back" "[I", Cond.fieldLink RX2 21 "GlassSpill$Scene" "glass" "[Z", Cond.fieldLink RX2 25 "GlassSpill$Scene" "screenColour" "I", Cond.methodLink RX4 55 yX2_changeSetting, Cond.instanceMethod yX2_changeSetting, Cond.selects RX2 yX2_changeSetting yX2_changeSetting, Cond.code yX2_changeSetting cX2_changeSetting 4 (some .int), Cond.static yX4_isSetting, Cond.initialized RX4, Cond.code yX4_isSetting cX4_isSetting 1 (some .boolean)]
def wsX4_bestShare_r2 : List Cond := [Cond.methodLink RX4 98 yX3_show, Cond.instanceMethod yX3_show, Cond.selects RX3 yX3_show yX3_show, Cond.initialized RX3, Cond.code yX3_show cX3_show 2 none, Cond.methodLink RX3 44 yX3_findOpaque, Cond.instanceMethod yX3_findOpaque, Cond.selects RX3 yX3_findOpaque yX3_findOpaque, Cond.code yX3_findOpaque cX3_findOpaque 5 none, Cond.fieldLink RX3 70 "GlassSpill$Scene" "settings" "[I", Cond.fieldLink RX3 9 "GlassSpill$View" "raw" "[I", Cond.fieldLink RX3 15 "GlassSpill$View" "opaque" "[I", Cond.methodLink RX3 73 yX2_distanceOf, Cond.instanceMethod yX2_distanceOf, Cond.selects RX2 yX2_distanceOf yX2_distanceOf, Cond.code yX2_distanceOf cX2_distanceOf 2 (some .int), Cond.static yX4_isPixel, Cond.code yX4_isPixel cX4_isPixel 1 (some .boolean), Cond.static yX4_distance, Cond.code yX4_distance cX4_distance 4 (some .int), Cond.methodLink RX4 199 Lib.Math.abs.name, Cond.static Lib.Math.abs.name, Cond.initialized "java/lang/Math", Cond.code Lib.Math.abs.name Lib.Math.abs.code 1 (some .int)]
def wsX4_bestShare_r3 : List Cond := [Cond.methodLink RX4 196 yX4_part, Cond.static yX4_part, Cond.code yX4_part cX4_part 2 (some .int), Cond.methodLink RX4 193 yX4_partShift, Cond.static yX4_partShift, Cond.code yX4_partShift cX4_partShift 1 (some .int), Cond.methodLink RX3 76 yX3_rawOpaque, Cond.static yX3_rawOpaque, Cond.code yX3_rawOpaque cX3_rawOpaque 3 (some .int), Cond.methodLink RX3 80 yX3_closeHoles, Cond.instanceMethod yX3_closeHoles, Cond.selects RX3 yX3_closeHoles yX3_closeHoles, Cond.code yX3_closeHoles cX3_closeHoles 2 none, Cond.fieldLink RX3 33 "GlassSpill$View" "reached" "[Z", Cond.methodLink RX3 83 yX3_reachFromEdge, Cond.instanceMethod yX3_reachFromEdge, Cond.selects RX3 yX3_reachFromEdge yX3_reachFromEdge, Cond.code yX3_reachFromEdge cX3_reachFromEdge 3 none, Cond.fieldLink RX3 40 "GlassSpill$View" "queued" "I", Cond.fieldLink RX3 37 "GlassSpill$View" "queue" "[I", Cond.static yX4_isAtEdge, Cond.code yX4_isAtEdge cX4_isAtEdge 3 (some .boolean), Cond.methodLink RX3 90 yX3_reach, Cond.instanceMethod yX3_reach]
def wsX4_bestShare_r4 : List Cond := [Cond.selects RX3 yX3_reach yX3_reach, Cond.code yX3_reach cX3_reach 2 none, Cond.static yX4_beside, Cond.code yX4_beside cX4_beside 3 (some .int), Cond.methodLink RX3 48 yX3_findKinds, Cond.instanceMethod yX3_findKinds, Cond.selects RX3 yX3_findKinds yX3_findKinds, Cond.code yX3_findKinds cX3_findKinds 3 none, Cond.fieldLink RX3 18 "GlassSpill$View" "kinds" "[I", Cond.fieldLink RX3 54 "GlassSpill$Scene" "glass" "[Z", Cond.methodLink RX3 100 yX3_unmarkedKind, Cond.instanceMethod yX3_unmarkedKind, Cond.selects RX3 yX3_unmarkedKind yX3_unmarkedKind, Cond.code yX3_unmarkedKind cX3_unmarkedKind 2 (some .int), Cond.methodLink RX3 103 yX3_isOneBeside, Cond.instanceMethod yX3_isOneBeside, Cond.selects RX3 yX3_isOneBeside yX3_isOneBeside, Cond.code yX3_isOneBeside cX3_isOneBeside 5 (some .boolean), Cond.methodLink RX3 51 yX3_compose, Cond.instanceMethod yX3_compose, Cond.selects RX3 yX3_compose yX3_compose, Cond.code yX3_compose cX3_compose 4 none, Cond.fieldLink RX3 59 "GlassSpill$Scene" "screenColour" "I", Cond.fieldLink RX3 21 "GlassSpill$View" "spill" "[I"]
def wsX4_bestShare_r5 : List Cond := [Cond.fieldLink RX3 107 "GlassSpill$Scene" "front" "[I", Cond.fieldLink RX3 24 "GlassSpill$View" "taken" "[I", Cond.fieldLink RX3 27 "GlassSpill$View" "cleaned" "[I", Cond.fieldLink RX3 30 "GlassSpill$View" "composed" "[I", Cond.fieldLink RX3 117 "GlassSpill$Scene" "back" "[I", Cond.static yX4_mainPart, Cond.code yX4_mainPart cX4_mainPart 3 (some .int), Cond.static yX4_spillIn, Cond.code yX4_spillIn cX4_spillIn 4 (some .int), Cond.methodLink RX4 190 Lib.Math.max.name, Cond.static Lib.Math.max.name, Cond.code Lib.Math.max.name Lib.Math.max.code 2 (some .int), Cond.methodLink RX3 110 yX3_share, Cond.static yX3_share, Cond.code yX3_share cX3_share 2 (some .int), Cond.static yX4_composedColour, Cond.code yX4_composedColour cX4_composedColour 6 (some .int), Cond.methodLink RX4 160 yX3_spillLeft, Cond.instanceMethod yX3_spillLeft, Cond.selects RX3 yX3_spillLeft yX3_spillLeft, Cond.code yX3_spillLeft cX3_spillLeft 5 (some .int)]
def wsX4_bestShare : List Cond := .code yX4_bestShare cX4_bestShare 8 (some .int) :: ((wsX4_bestShare_r1 ++ (wsX4_bestShare_r2 ++ (wsX4_bestShare_r3 ++ (wsX4_bestShare_r4 ++ wsX4_bestShare_r5)))) ++ wsX40 ++ wsX20 ++ wsX30)
def wsX4_charactersIn : List Cond := .code yX4_charactersIn cX4_charactersIn 7 (some .int) :: ([.constantLong RX4 183 (255)])
def wsX4_put : List Cond := .code yX4_put cX4_put 4 (some .int) :: ([.fieldLink RX4 32 "GlassSpill" "pad" "LGlassSpill$Pad;", .fieldLink RX4 88 "GlassSpill$Pad" "length" "I", .methodLink RX4 163 yX4_charactersIn, .static yX4_charactersIn, .initialized RX4, .code yX4_charactersIn cX4_charactersIn 7 (some .int), .constantLong RX4 183 (255), .methodLink RX4 167 yX1_append, .instanceMethod yX1_append, .selects RX1 yX1_append yX1_append, .initialized RX1, .code yX1_append cX1_append 5 none, .fieldLink RX1 15 "GlassSpill$Pad" "length" "I", .fieldLink RX1 9 "GlassSpill$Pad" "codes" "[I", .constantLong RX1 19 (255)] ++ wsX40 ++ wsX10)
def wsX4_wipe : List Cond := .code yX4_wipe cX4_wipe 2 (some .int) :: ([.fieldLink RX4 32 "GlassSpill" "pad" "LGlassSpill$Pad;", .fieldLink RX4 88 "GlassSpill$Pad" "length" "I"] ++ wsX40 ++ wsX10)
def wsX4_fault : List Cond := .code yX4_fault cX4_fault 1 (some .int) :: ([.fieldLink RX4 32 "GlassSpill" "pad" "LGlassSpill$Pad;", .methodLink RX4 80 yX1_firstFault, .instanceMethod yX1_firstFault, .selects RX1 yX1_firstFault yX1_firstFault, .initialized RX1, .code yX1_firstFault cX1_firstFault 4 (some .int), .fieldLink RX1 15 "GlassSpill$Pad" "length" "I", .fieldLink RX1 9 "GlassSpill$Pad" "codes" "[I", .methodLink RX1 21 yX1_partOf, .static yX1_partOf, .code yX1_partOf cX1_partOf 1 (some .int)] ++ wsX40 ++ wsX10)
def wsX4_undo_r1 : List Cond := [Cond.fieldLink RX4 39 "GlassSpill" "history" "LGlassSpill$History;", Cond.fieldLink RX4 150 "GlassSpill$History" "size" "I", Cond.fieldLink RX4 10 "GlassSpill" "now" "LGlassSpill$Scene;", Cond.methodLink RX4 171 yX0_takeBack, Cond.instanceMethod yX0_takeBack, Cond.selects RX0 yX0_takeBack yX0_takeBack, Cond.initialized RX0, Cond.code yX0_takeBack cX0_takeBack 3 none, Cond.fieldLink RX0 21 "GlassSpill$History" "size" "I", Cond.fieldLink RX0 11 "GlassSpill$History" "states" "[LGlassSpill$Scene;", Cond.fieldLink RX0 17 "GlassSpill$History" "oldest" "I", Cond.methodLink RX0 25 yJ9_floorMod_7cf53, Cond.static yJ9_floorMod_7cf53, Cond.initialized RJ9, Cond.code yJ9_floorMod_7cf53 cJ9_floorMod_7cf53 3 (some .int), Cond.methodLink RX0 31 yX2_copyFrom, Cond.instanceMethod yX2_copyFrom, Cond.selects RX2 yX2_copyFrom yX2_copyFrom, Cond.initialized RX2, Cond.code yX2_copyFrom cX2_copyFrom 3 none, Cond.fieldLink RX2 9 "GlassSpill$Scene" "settings" "[I", Cond.methodLink RX2 32 arraycopyName, Cond.native arraycopyName, Cond.static arraycopyName]
def wsX4_undo_r2 : List Cond := [Cond.initialized "java/lang/System", Cond.fieldLink RX2 15 "GlassSpill$Scene" "front" "[I", Cond.fieldLink RX2 18 "GlassSpill$Scene" "back" "[I", Cond.fieldLink RX2 21 "GlassSpill$Scene" "glass" "[Z", Cond.fieldLink RX2 25 "GlassSpill$Scene" "screenColour" "I"]
def wsX4_undo : List Cond := .code yX4_undo cX4_undo 1 (some .int) :: ((wsX4_undo_r1 ++ wsX4_undo_r2) ++ wsX40 ++ wsX00 ++ wsX20)
def wsX4_isSlot : List Cond := .code yX4_isSlot cX4_isSlot 1 (some .boolean) :: ([])
def wsX4_save_r1 : List Cond := [Cond.fieldLink RX4 43 "GlassSpill" "slots" "[LGlassSpill$Scene;", Cond.classLink RX4 7 RX2, Cond.instantiable RX2 5, Cond.initialized RX2, Cond.fieldLink RX4 10 "GlassSpill" "now" "LGlassSpill$Scene;", Cond.methodLink RX4 174 yX4_isSlot, Cond.static yX4_isSlot, Cond.initialized RX4, Cond.code yX4_isSlot cX4_isSlot 1 (some .boolean), Cond.methodLink RX4 9 yX2_init, Cond.instanceMethod yX2_init, Cond.code yX2_init cX2_init 1 none, Cond.methodLink RX2 3 objectInit, Cond.instanceMethod objectInit, Cond.code objectInit ⟨#[0xb1]⟩ 1 none, Cond.arrayClass .int, Cond.fieldLink RX2 9 "GlassSpill$Scene" "settings" "[I", Cond.fieldLink RX2 15 "GlassSpill$Scene" "front" "[I", Cond.fieldLink RX2 18 "GlassSpill$Scene" "back" "[I", Cond.arrayClass .boolean, Cond.fieldLink RX2 21 "GlassSpill$Scene" "glass" "[Z", Cond.fieldLink RX2 25 "GlassSpill$Scene" "screenColour" "I", Cond.methodLink RX2 32 arraycopyName, Cond.native arraycopyName]
def wsX4_save_r2 : List Cond := [Cond.static arraycopyName, Cond.initialized "java/lang/System", Cond.methodLink RX4 153 yX2_copyFrom, Cond.instanceMethod yX2_copyFrom, Cond.selects RX2 yX2_copyFrom yX2_copyFrom, Cond.code yX2_copyFrom cX2_copyFrom 3 none, Cond.methodLink RX4 95 yX2_marked, Cond.instanceMethod yX2_marked, Cond.selects RX2 yX2_marked yX2_marked, Cond.code yX2_marked cX2_marked 3 (some .int)]
def wsX4_save : List Cond := .code yX4_save cX4_save 3 (some .int) :: ((wsX4_save_r1 ++ wsX4_save_r2) ++ wsX40 ++ wsX20)
def wsX4_restore_r1 : List Cond := [Cond.fieldLink RX4 43 "GlassSpill" "slots" "[LGlassSpill$Scene;", Cond.fieldLink RX4 39 "GlassSpill" "history" "LGlassSpill$History;", Cond.fieldLink RX4 10 "GlassSpill" "now" "LGlassSpill$Scene;", Cond.methodLink RX4 174 yX4_isSlot, Cond.static yX4_isSlot, Cond.initialized RX4, Cond.code yX4_isSlot cX4_isSlot 1 (some .boolean), Cond.methodLink RX4 51 yX0_remember, Cond.instanceMethod yX0_remember, Cond.selects RX0 yX0_remember yX0_remember, Cond.initialized RX0, Cond.code yX0_remember cX0_remember 3 none, Cond.fieldLink RX0 11 "GlassSpill$History" "states" "[LGlassSpill$Scene;", Cond.fieldLink RX0 17 "GlassSpill$History" "oldest" "I", Cond.fieldLink RX0 21 "GlassSpill$History" "size" "I", Cond.methodLink RX0 25 yJ9_floorMod_7cf53, Cond.static yJ9_floorMod_7cf53, Cond.initialized RJ9, Cond.code yJ9_floorMod_7cf53 cJ9_floorMod_7cf53 3 (some .int), Cond.methodLink RX0 31 yX2_copyFrom, Cond.instanceMethod yX2_copyFrom, Cond.selects RX2 yX2_copyFrom yX2_copyFrom, Cond.initialized RX2, Cond.code yX2_copyFrom cX2_copyFrom 3 none]
def wsX4_restore_r2 : List Cond := [Cond.fieldLink RX2 9 "GlassSpill$Scene" "settings" "[I", Cond.methodLink RX2 32 arraycopyName, Cond.native arraycopyName, Cond.static arraycopyName, Cond.initialized "java/lang/System", Cond.fieldLink RX2 15 "GlassSpill$Scene" "front" "[I", Cond.fieldLink RX2 18 "GlassSpill$Scene" "back" "[I", Cond.fieldLink RX2 21 "GlassSpill$Scene" "glass" "[Z", Cond.fieldLink RX2 25 "GlassSpill$Scene" "screenColour" "I", Cond.methodLink RX4 153 yX2_copyFrom, Cond.methodLink RX4 95 yX2_marked, Cond.instanceMethod yX2_marked, Cond.selects RX2 yX2_marked yX2_marked, Cond.code yX2_marked cX2_marked 3 (some .int)]
def wsX4_restore : List Cond := .code yX4_restore cX4_restore 3 (some .int) :: ((wsX4_restore_r1 ++ wsX4_restore_r2) ++ wsX40 ++ wsX00 ++ wsX20)
def wsX5_init : List Cond := .code yX5_init cX5_init 1 none :: ([.methodLink RX5 1 objectInit, .instanceMethod objectInit, .code objectInit ⟨#[0xb1]⟩ 1 none, .arrayClass .int, .fieldLink RX5 7 "GlassSpillModel" "all" "[I", .fieldLink RX5 13 "GlassSpillModel" "history" "[I", .fieldLink RX5 16 "GlassSpillModel" "slots" "[I", .fieldLink RX5 19 "GlassSpillModel" "isSaved" "[I", .fieldLink RX5 22 "GlassSpillModel" "raw" "[I", .fieldLink RX5 25 "GlassSpillModel" "opaque" "[I", .fieldLink RX5 28 "GlassSpillModel" "kind" "[I", .fieldLink RX5 31 "GlassSpillModel" "out" "[I", .fieldLink RX5 34 "GlassSpillModel" "composed" "[I", .fieldLink RX5 37 "GlassSpillModel" "isOpen" "[I", .fieldLink RX5 40 "GlassSpillModel" "was" "[I", .fieldLink RX5 43 "GlassSpillModel" "text" "[I", .fieldLink RX5 46 "GlassSpillModel" "colours" "[I"] ++ wsX50)
def wsX5_in : List Cond := .code yX5_in cX5_in 6 (some .boolean) :: ([])
def wsX5_changes : List Cond := .code yX5_changes cX5_changes 2 none :: ([.fieldLink RX5 49 "GlassSpillModel" "historyLong" "I", .fieldLink RX5 13 "GlassSpillModel" "history" "[I", .fieldLink RX5 7 "GlassSpillModel" "all" "[I"] ++ wsX50)
def wsX5_partOf : List Cond := .code yX5_partOf cX5_partOf 2 (some .int) :: ([])
def wsX5_off : List Cond := .code yX5_off cX5_off 1 (some .int) :: ([])
def wsX5_distanceOf : List Cond := .code yX5_distanceOf cX5_distanceOf 2 (some .int) :: ([.methodLink RX5 53 yX5_partOf, .static yX5_partOf, .initialized RX5, .code yX5_partOf cX5_partOf 2 (some .int), .methodLink RX5 57 yX5_off, .static yX5_off, .code yX5_off cX5_off 1 (some .int)])
def wsX5_mainPart : List Cond := .code yX5_mainPart cX5_mainPart 3 (some .int) :: ([.fieldLink RX5 7 "GlassSpillModel" "all" "[I", .methodLink RX5 53 yX5_partOf, .static yX5_partOf, .initialized RX5, .code yX5_partOf cX5_partOf 2 (some .int)] ++ wsX50)
def wsX5_greater : List Cond := .code yX5_greater cX5_greater 2 (some .int) :: ([])
def wsX5_spillOf : List Cond := .code yX5_spillOf cX5_spillOf 3 (some .int) :: ([.methodLink RX5 53 yX5_partOf, .static yX5_partOf, .initialized RX5, .code yX5_partOf cX5_partOf 2 (some .int), .methodLink RX5 61 yX5_greater, .static yX5_greater, .code yX5_greater cX5_greater 2 (some .int)])
def wsX5_beside : List Cond := .code yX5_beside cX5_beside 4 (some .int) :: ([.constantLong RX5 64 (7), .constantLong RX5 70 (5), .methodLink RX5 66 yX5_in, .static yX5_in, .initialized RX5, .code yX5_in cX5_in 6 (some .boolean)])
def wsX5_isEdge : List Cond := .code yX5_isEdge cX5_isEdge 1 (some .boolean) :: ([])
def wsX5_rawOf : List Cond := .code yX5_rawOf cX5_rawOf 2 (some .int) :: ([.fieldLink RX5 7 "GlassSpillModel" "all" "[I"] ++ wsX50)
def wsX5_opens : List Cond := .code yX5_opens cX5_opens 5 none :: ([.fieldLink RX5 37 "GlassSpillModel" "isOpen" "[I", .fieldLink RX5 22 "GlassSpillModel" "raw" "[I", .methodLink RX5 72 yX5_isEdge, .static yX5_isEdge, .initialized RX5, .code yX5_isEdge cX5_isEdge 1 (some .boolean), .methodLink RX5 76 yX5_beside, .static yX5_beside, .code yX5_beside cX5_beside 4 (some .int), .constantLong RX5 64 (7), .constantLong RX5 70 (5), .methodLink RX5 66 yX5_in, .static yX5_in, .code yX5_in cX5_in 6 (some .boolean)] ++ wsX50)
def wsX5_isBeside : List Cond := .code yX5_isBeside cX5_isBeside 6 (some .boolean) :: ([.fieldLink RX5 25 "GlassSpillModel" "opaque" "[I", .methodLink RX5 76 yX5_beside, .static yX5_beside, .initialized RX5, .code yX5_beside cX5_beside 4 (some .int), .constantLong RX5 64 (7), .constantLong RX5 70 (5), .methodLink RX5 66 yX5_in, .static yX5_in, .code yX5_in cX5_in 6 (some .boolean)] ++ wsX50)
def wsX5_kindOf : List Cond := .code yX5_kindOf cX5_kindOf 2 (some .int) :: ([.fieldLink RX5 7 "GlassSpillModel" "all" "[I", .fieldLink RX5 25 "GlassSpillModel" "opaque" "[I", .methodLink RX5 79 yX5_isBeside, .instanceMethod yX5_isBeside, .selects RX5 yX5_isBeside yX5_isBeside, .initialized RX5, .code yX5_isBeside cX5_isBeside 6 (some .boolean), .methodLink RX5 76 yX5_beside, .static yX5_beside, .code yX5_beside cX5_beside 4 (some .int), .constantLong RX5 64 (7), .constantLong RX5 70 (5), .methodLink RX5 66 yX5_in, .static yX5_in, .code yX5_in cX5_in 6 (some .boolean)] ++ wsX50)
def wsX5_shareOf : List Cond := .code yX5_shareOf cX5_shareOf 2 (some .int) :: ([.fieldLink RX5 7 "GlassSpillModel" "all" "[I"] ++ wsX50)
def wsX5_without : List Cond := .code yX5_without cX5_without 3 (some .int) :: ([])
def wsX5_composes : List Cond := .code yX5_composes cX5_composes 6 (some .int) :: ([.fieldLink RX5 25 "GlassSpillModel" "opaque" "[I", .fieldLink RX5 7 "GlassSpillModel" "all" "[I", .methodLink RX5 53 yX5_partOf, .static yX5_partOf, .initialized RX5, .code yX5_partOf cX5_partOf 2 (some .int)] ++ wsX50)
def wsX5_works_r1 : List Cond := [Cond.fieldLink RX5 22 "GlassSpillModel" "raw" "[I", Cond.fieldLink RX5 7 "GlassSpillModel" "all" "[I", Cond.fieldLink RX5 25 "GlassSpillModel" "opaque" "[I", Cond.fieldLink RX5 37 "GlassSpillModel" "isOpen" "[I", Cond.fieldLink RX5 28 "GlassSpillModel" "kind" "[I", Cond.fieldLink RX5 31 "GlassSpillModel" "out" "[I", Cond.fieldLink RX5 34 "GlassSpillModel" "composed" "[I", Cond.methodLink RX5 83 yX5_mainPart, Cond.instanceMethod yX5_mainPart, Cond.selects RX5 yX5_mainPart yX5_mainPart, Cond.initialized RX5, Cond.code yX5_mainPart cX5_mainPart 3 (some .int), Cond.methodLink RX5 53 yX5_partOf, Cond.static yX5_partOf, Cond.code yX5_partOf cX5_partOf 2 (some .int), Cond.methodLink RX5 87 yX5_distanceOf, Cond.static yX5_distanceOf, Cond.code yX5_distanceOf cX5_distanceOf 2 (some .int), Cond.methodLink RX5 57 yX5_off, Cond.static yX5_off, Cond.code yX5_off cX5_off 1 (some .int), Cond.methodLink RX5 90 yX5_rawOf, Cond.instanceMethod yX5_rawOf, Cond.selects RX5 yX5_rawOf yX5_rawOf]
def wsX5_works_r2 : List Cond := [Cond.code yX5_rawOf cX5_rawOf 2 (some .int), Cond.methodLink RX5 93 yX5_opens, Cond.instanceMethod yX5_opens, Cond.selects RX5 yX5_opens yX5_opens, Cond.code yX5_opens cX5_opens 5 none, Cond.methodLink RX5 72 yX5_isEdge, Cond.static yX5_isEdge, Cond.code yX5_isEdge cX5_isEdge 1 (some .boolean), Cond.methodLink RX5 76 yX5_beside, Cond.static yX5_beside, Cond.code yX5_beside cX5_beside 4 (some .int), Cond.constantLong RX5 64 (7), Cond.constantLong RX5 70 (5), Cond.methodLink RX5 66 yX5_in, Cond.static yX5_in, Cond.code yX5_in cX5_in 6 (some .boolean), Cond.methodLink RX5 96 yX5_kindOf, Cond.instanceMethod yX5_kindOf, Cond.selects RX5 yX5_kindOf yX5_kindOf, Cond.code yX5_kindOf cX5_kindOf 2 (some .int), Cond.methodLink RX5 79 yX5_isBeside, Cond.instanceMethod yX5_isBeside, Cond.selects RX5 yX5_isBeside yX5_isBeside, Cond.code yX5_isBeside cX5_isBeside 6 (some .boolean)]
def wsX5_works_r3 : List Cond := [Cond.methodLink RX5 99 yX5_spillOf, Cond.static yX5_spillOf, Cond.code yX5_spillOf cX5_spillOf 3 (some .int), Cond.methodLink RX5 61 yX5_greater, Cond.static yX5_greater, Cond.code yX5_greater cX5_greater 2 (some .int), Cond.methodLink RX5 102 yX5_shareOf, Cond.instanceMethod yX5_shareOf, Cond.selects RX5 yX5_shareOf yX5_shareOf, Cond.code yX5_shareOf cX5_shareOf 2 (some .int), Cond.methodLink RX5 105 yX5_without, Cond.static yX5_without, Cond.code yX5_without cX5_without 3 (some .int), Cond.methodLink RX5 109 yX5_composes, Cond.instanceMethod yX5_composes, Cond.selects RX5 yX5_composes yX5_composes, Cond.code yX5_composes cX5_composes 6 (some .int)]
def wsX5_works : List Cond := .code yX5_works cX5_works 3 none :: ((wsX5_works_r1 ++ (wsX5_works_r2 ++ wsX5_works_r3)) ++ wsX50)
def wsX5_isSetting : List Cond := .code yX5_isSetting cX5_isSetting 2 (some .boolean) :: ([.constantLong RX5 112 (45), .constantLong RX5 114 (16), .methodLink RX5 66 yX5_in, .static yX5_in, .initialized RX5, .code yX5_in cX5_in 6 (some .boolean)])
def wsX5_isOrdered : List Cond := .code yX5_isOrdered cX5_isOrdered 5 (some .boolean) :: ([.fieldLink RX5 7 "GlassSpillModel" "all" "[I"] ++ wsX50)
def wsX5_set : List Cond := .code yX5_set cX5_set 4 (some .int) :: ([.fieldLink RX5 7 "GlassSpillModel" "all" "[I", .methodLink RX5 116 yX5_isSetting, .static yX5_isSetting, .initialized RX5, .code yX5_isSetting cX5_isSetting 2 (some .boolean), .constantLong RX5 112 (45), .constantLong RX5 114 (16), .methodLink RX5 66 yX5_in, .static yX5_in, .code yX5_in cX5_in 6 (some .boolean), .methodLink RX5 119 yX5_isOrdered, .instanceMethod yX5_isOrdered, .selects RX5 yX5_isOrdered yX5_isOrdered, .code yX5_isOrdered cX5_isOrdered 5 (some .boolean), .methodLink RX5 122 yX5_changes, .instanceMethod yX5_changes, .selects RX5 yX5_changes yX5_changes, .code yX5_changes cX5_changes 2 none, .fieldLink RX5 49 "GlassSpillModel" "historyLong" "I", .fieldLink RX5 13 "GlassSpillModel" "history" "[I"] ++ wsX50)
def wsX5_isColour : List Cond := .code yX5_isColour cX5_isColour 1 (some .boolean) :: ([.constantLong RX5 125 (4095), .methodLink RX5 66 yX5_in, .static yX5_in, .initialized RX5, .code yX5_in cX5_in 6 (some .boolean)])
def wsX5_isPixel : List Cond := .code yX5_isPixel cX5_isPixel 1 (some .boolean) :: ([.constantLong RX5 127 (47), .methodLink RX5 66 yX5_in, .static yX5_in, .initialized RX5, .code yX5_in cX5_in 6 (some .boolean)])
def wsX5_screen : List Cond := .code yX5_screen cX5_screen 3 (some .int) :: ([.fieldLink RX5 7 "GlassSpillModel" "all" "[I", .methodLink RX5 129 yX5_isColour, .static yX5_isColour, .initialized RX5, .code yX5_isColour cX5_isColour 1 (some .boolean), .constantLong RX5 125 (4095), .methodLink RX5 66 yX5_in, .static yX5_in, .code yX5_in cX5_in 6 (some .boolean), .methodLink RX5 122 yX5_changes, .instanceMethod yX5_changes, .selects RX5 yX5_changes yX5_changes, .code yX5_changes cX5_changes 2 none, .fieldLink RX5 49 "GlassSpillModel" "historyLong" "I", .fieldLink RX5 13 "GlassSpillModel" "history" "[I"] ++ wsX50)
def wsX5_picture : List Cond := .code yX5_picture cX5_picture 1 (some .int) :: ([])
def wsX5_paint : List Cond := .code yX5_paint cX5_paint 5 (some .int) :: ([.fieldLink RX5 7 "GlassSpillModel" "all" "[I", .methodLink RX5 132 yX5_isPixel, .static yX5_isPixel, .initialized RX5, .code yX5_isPixel cX5_isPixel 1 (some .boolean), .constantLong RX5 127 (47), .methodLink RX5 66 yX5_in, .static yX5_in, .code yX5_in cX5_in 6 (some .boolean), .methodLink RX5 129 yX5_isColour, .static yX5_isColour, .code yX5_isColour cX5_isColour 1 (some .boolean), .constantLong RX5 125 (4095), .methodLink RX5 122 yX5_changes, .instanceMethod yX5_changes, .selects RX5 yX5_changes yX5_changes, .code yX5_changes cX5_changes 2 none, .fieldLink RX5 49 "GlassSpillModel" "historyLong" "I", .fieldLink RX5 13 "GlassSpillModel" "history" "[I", .methodLink RX5 135 yX5_picture, .static yX5_picture, .code yX5_picture cX5_picture 1 (some .int)] ++ wsX50)
def wsX5_isBetween : List Cond := .code yX5_isBetween cX5_isBetween 3 (some .boolean) :: ([.methodLink RX5 66 yX5_in, .static yX5_in, .initialized RX5, .code yX5_in cX5_in 6 (some .boolean)])
def wsX5_fill_r1 : List Cond := [Cond.fieldLink RX5 7 "GlassSpillModel" "all" "[I", Cond.methodLink RX5 132 yX5_isPixel, Cond.static yX5_isPixel, Cond.initialized RX5, Cond.code yX5_isPixel cX5_isPixel 1 (some .boolean), Cond.constantLong RX5 127 (47), Cond.methodLink RX5 66 yX5_in, Cond.static yX5_in, Cond.code yX5_in cX5_in 6 (some .boolean), Cond.methodLink RX5 129 yX5_isColour, Cond.static yX5_isColour, Cond.code yX5_isColour cX5_isColour 1 (some .boolean), Cond.constantLong RX5 125 (4095), Cond.methodLink RX5 122 yX5_changes, Cond.instanceMethod yX5_changes, Cond.selects RX5 yX5_changes yX5_changes, Cond.code yX5_changes cX5_changes 2 none, Cond.fieldLink RX5 49 "GlassSpillModel" "historyLong" "I", Cond.fieldLink RX5 13 "GlassSpillModel" "history" "[I", Cond.methodLink RX5 139 yX5_isBetween, Cond.static yX5_isBetween, Cond.code yX5_isBetween cX5_isBetween 3 (some .boolean), Cond.methodLink RX5 135 yX5_picture, Cond.static yX5_picture]
def wsX5_fill_r2 : List Cond := [Cond.code yX5_picture cX5_picture 1 (some .int)]
def wsX5_fill : List Cond := .code yX5_fill cX5_fill 7 (some .int) :: ((wsX5_fill_r1 ++ wsX5_fill_r2) ++ wsX50)
def wsX5_marked : List Cond := .code yX5_marked cX5_marked 3 (some .int) :: ([.fieldLink RX5 7 "GlassSpillModel" "all" "[I"] ++ wsX50)
def wsX5_mark : List Cond := .code yX5_mark cX5_mark 4 (some .int) :: ([.fieldLink RX5 7 "GlassSpillModel" "all" "[I", .methodLink RX5 132 yX5_isPixel, .static yX5_isPixel, .initialized RX5, .code yX5_isPixel cX5_isPixel 1 (some .boolean), .constantLong RX5 127 (47), .methodLink RX5 66 yX5_in, .static yX5_in, .code yX5_in cX5_in 6 (some .boolean), .methodLink RX5 122 yX5_changes, .instanceMethod yX5_changes, .selects RX5 yX5_changes yX5_changes, .code yX5_changes cX5_changes 2 none, .fieldLink RX5 49 "GlassSpillModel" "historyLong" "I", .fieldLink RX5 13 "GlassSpillModel" "history" "[I", .methodLink RX5 143 yX5_marked, .instanceMethod yX5_marked, .selects RX5 yX5_marked yX5_marked, .code yX5_marked cX5_marked 3 (some .int)] ++ wsX50)
def wsX5_keep_r1 : List Cond := [Cond.fieldLink RX5 7 "GlassSpillModel" "all" "[I", Cond.fieldLink RX5 34 "GlassSpillModel" "composed" "[I", Cond.methodLink RX5 122 yX5_changes, Cond.instanceMethod yX5_changes, Cond.selects RX5 yX5_changes yX5_changes, Cond.initialized RX5, Cond.code yX5_changes cX5_changes 2 none, Cond.fieldLink RX5 49 "GlassSpillModel" "historyLong" "I", Cond.fieldLink RX5 13 "GlassSpillModel" "history" "[I", Cond.methodLink RX5 146 yX5_works, Cond.instanceMethod yX5_works, Cond.selects RX5 yX5_works yX5_works, Cond.code yX5_works cX5_works 3 none, Cond.fieldLink RX5 22 "GlassSpillModel" "raw" "[I", Cond.fieldLink RX5 25 "GlassSpillModel" "opaque" "[I", Cond.fieldLink RX5 37 "GlassSpillModel" "isOpen" "[I", Cond.fieldLink RX5 28 "GlassSpillModel" "kind" "[I", Cond.fieldLink RX5 31 "GlassSpillModel" "out" "[I", Cond.methodLink RX5 83 yX5_mainPart, Cond.instanceMethod yX5_mainPart, Cond.selects RX5 yX5_mainPart yX5_mainPart, Cond.code yX5_mainPart cX5_mainPart 3 (some .int), Cond.methodLink RX5 53 yX5_partOf, Cond.static yX5_partOf]
def wsX5_keep_r2 : List Cond := [Cond.code yX5_partOf cX5_partOf 2 (some .int), Cond.methodLink RX5 87 yX5_distanceOf, Cond.static yX5_distanceOf, Cond.code yX5_distanceOf cX5_distanceOf 2 (some .int), Cond.methodLink RX5 57 yX5_off, Cond.static yX5_off, Cond.code yX5_off cX5_off 1 (some .int), Cond.methodLink RX5 90 yX5_rawOf, Cond.instanceMethod yX5_rawOf, Cond.selects RX5 yX5_rawOf yX5_rawOf, Cond.code yX5_rawOf cX5_rawOf 2 (some .int), Cond.methodLink RX5 93 yX5_opens, Cond.instanceMethod yX5_opens, Cond.selects RX5 yX5_opens yX5_opens, Cond.code yX5_opens cX5_opens 5 none, Cond.methodLink RX5 72 yX5_isEdge, Cond.static yX5_isEdge, Cond.code yX5_isEdge cX5_isEdge 1 (some .boolean), Cond.methodLink RX5 76 yX5_beside, Cond.static yX5_beside, Cond.code yX5_beside cX5_beside 4 (some .int), Cond.constantLong RX5 64 (7), Cond.constantLong RX5 70 (5), Cond.methodLink RX5 66 yX5_in]
def wsX5_keep_r3 : List Cond := [Cond.static yX5_in, Cond.code yX5_in cX5_in 6 (some .boolean), Cond.methodLink RX5 96 yX5_kindOf, Cond.instanceMethod yX5_kindOf, Cond.selects RX5 yX5_kindOf yX5_kindOf, Cond.code yX5_kindOf cX5_kindOf 2 (some .int), Cond.methodLink RX5 79 yX5_isBeside, Cond.instanceMethod yX5_isBeside, Cond.selects RX5 yX5_isBeside yX5_isBeside, Cond.code yX5_isBeside cX5_isBeside 6 (some .boolean), Cond.methodLink RX5 99 yX5_spillOf, Cond.static yX5_spillOf, Cond.code yX5_spillOf cX5_spillOf 3 (some .int), Cond.methodLink RX5 61 yX5_greater, Cond.static yX5_greater, Cond.code yX5_greater cX5_greater 2 (some .int), Cond.methodLink RX5 102 yX5_shareOf, Cond.instanceMethod yX5_shareOf, Cond.selects RX5 yX5_shareOf yX5_shareOf, Cond.code yX5_shareOf cX5_shareOf 2 (some .int), Cond.methodLink RX5 105 yX5_without, Cond.static yX5_without, Cond.code yX5_without cX5_without 3 (some .int), Cond.methodLink RX5 109 yX5_composes]
def wsX5_keep_r4 : List Cond := [Cond.instanceMethod yX5_composes, Cond.selects RX5 yX5_composes yX5_composes, Cond.code yX5_composes cX5_composes 6 (some .int)]
def wsX5_keep : List Cond := .code yX5_keep cX5_keep 3 (some .int) :: ((wsX5_keep_r1 ++ (wsX5_keep_r2 ++ (wsX5_keep_r3 ++ wsX5_keep_r4))) ++ wsX50)
def wsX5_pixel_r1 : List Cond := [Cond.fieldLink RX5 7 "GlassSpillModel" "all" "[I", Cond.fieldLink RX5 22 "GlassSpillModel" "raw" "[I", Cond.fieldLink RX5 25 "GlassSpillModel" "opaque" "[I", Cond.fieldLink RX5 28 "GlassSpillModel" "kind" "[I", Cond.fieldLink RX5 31 "GlassSpillModel" "out" "[I", Cond.fieldLink RX5 34 "GlassSpillModel" "composed" "[I", Cond.methodLink RX5 132 yX5_isPixel, Cond.static yX5_isPixel, Cond.initialized RX5, Cond.code yX5_isPixel cX5_isPixel 1 (some .boolean), Cond.constantLong RX5 127 (47), Cond.methodLink RX5 66 yX5_in, Cond.static yX5_in, Cond.code yX5_in cX5_in 6 (some .boolean), Cond.methodLink RX5 146 yX5_works, Cond.instanceMethod yX5_works, Cond.selects RX5 yX5_works yX5_works, Cond.code yX5_works cX5_works 3 none, Cond.fieldLink RX5 37 "GlassSpillModel" "isOpen" "[I", Cond.methodLink RX5 83 yX5_mainPart, Cond.instanceMethod yX5_mainPart, Cond.selects RX5 yX5_mainPart yX5_mainPart, Cond.code yX5_mainPart cX5_mainPart 3 (some .int), Cond.methodLink RX5 53 yX5_partOf]
def wsX5_pixel_r2 : List Cond := [Cond.static yX5_partOf, Cond.code yX5_partOf cX5_partOf 2 (some .int), Cond.methodLink RX5 87 yX5_distanceOf, Cond.static yX5_distanceOf, Cond.code yX5_distanceOf cX5_distanceOf 2 (some .int), Cond.methodLink RX5 57 yX5_off, Cond.static yX5_off, Cond.code yX5_off cX5_off 1 (some .int), Cond.methodLink RX5 90 yX5_rawOf, Cond.instanceMethod yX5_rawOf, Cond.selects RX5 yX5_rawOf yX5_rawOf, Cond.code yX5_rawOf cX5_rawOf 2 (some .int), Cond.methodLink RX5 93 yX5_opens, Cond.instanceMethod yX5_opens, Cond.selects RX5 yX5_opens yX5_opens, Cond.code yX5_opens cX5_opens 5 none, Cond.methodLink RX5 72 yX5_isEdge, Cond.static yX5_isEdge, Cond.code yX5_isEdge cX5_isEdge 1 (some .boolean), Cond.methodLink RX5 76 yX5_beside, Cond.static yX5_beside, Cond.code yX5_beside cX5_beside 4 (some .int), Cond.constantLong RX5 64 (7), Cond.constantLong RX5 70 (5)]
def wsX5_pixel_r3 : List Cond := [Cond.methodLink RX5 96 yX5_kindOf, Cond.instanceMethod yX5_kindOf, Cond.selects RX5 yX5_kindOf yX5_kindOf, Cond.code yX5_kindOf cX5_kindOf 2 (some .int), Cond.methodLink RX5 79 yX5_isBeside, Cond.instanceMethod yX5_isBeside, Cond.selects RX5 yX5_isBeside yX5_isBeside, Cond.code yX5_isBeside cX5_isBeside 6 (some .boolean), Cond.methodLink RX5 99 yX5_spillOf, Cond.static yX5_spillOf, Cond.code yX5_spillOf cX5_spillOf 3 (some .int), Cond.methodLink RX5 61 yX5_greater, Cond.static yX5_greater, Cond.code yX5_greater cX5_greater 2 (some .int), Cond.methodLink RX5 102 yX5_shareOf, Cond.instanceMethod yX5_shareOf, Cond.selects RX5 yX5_shareOf yX5_shareOf, Cond.code yX5_shareOf cX5_shareOf 2 (some .int), Cond.methodLink RX5 105 yX5_without, Cond.static yX5_without, Cond.code yX5_without cX5_without 3 (some .int), Cond.methodLink RX5 109 yX5_composes, Cond.instanceMethod yX5_composes, Cond.selects RX5 yX5_composes yX5_composes]
def wsX5_pixel_r4 : List Cond := [Cond.code yX5_composes cX5_composes 6 (some .int)]
def wsX5_pixel : List Cond := .code yX5_pixel cX5_pixel 4 (some .int) :: ((wsX5_pixel_r1 ++ (wsX5_pixel_r2 ++ (wsX5_pixel_r3 ++ wsX5_pixel_r4))) ++ wsX50)
def wsX5_ofKind : List Cond := .code yX5_ofKind cX5_ofKind 4 (some .int) :: ([.fieldLink RX5 28 "GlassSpillModel" "kind" "[I"] ++ wsX50)
def wsX5_over : List Cond := .code yX5_over cX5_over 6 (some .int) :: ([.fieldLink RX5 7 "GlassSpillModel" "all" "[I", .fieldLink RX5 25 "GlassSpillModel" "opaque" "[I", .fieldLink RX5 31 "GlassSpillModel" "out" "[I", .fieldLink RX5 22 "GlassSpillModel" "raw" "[I", .fieldLink RX5 34 "GlassSpillModel" "composed" "[I", .methodLink RX5 83 yX5_mainPart, .instanceMethod yX5_mainPart, .selects RX5 yX5_mainPart yX5_mainPart, .initialized RX5, .code yX5_mainPart cX5_mainPart 3 (some .int), .methodLink RX5 53 yX5_partOf, .static yX5_partOf, .code yX5_partOf cX5_partOf 2 (some .int), .methodLink RX5 99 yX5_spillOf, .static yX5_spillOf, .code yX5_spillOf cX5_spillOf 3 (some .int), .methodLink RX5 61 yX5_greater, .static yX5_greater, .code yX5_greater cX5_greater 2 (some .int)] ++ wsX50)
def wsX5_count_r1 : List Cond := [Cond.constantLong RX5 149 (6), Cond.fieldLink RX5 7 "GlassSpillModel" "all" "[I", Cond.constantLong RX5 64 (7), Cond.constantLong RX5 151 (11), Cond.constantLong RX5 156 (12), Cond.constantLong RX5 158 (17), Cond.fieldLink RX5 163 "GlassSpillModel" "textLong" "I", Cond.fieldLink RX5 49 "GlassSpillModel" "historyLong" "I", Cond.methodLink RX5 146 yX5_works, Cond.instanceMethod yX5_works, Cond.selects RX5 yX5_works yX5_works, Cond.initialized RX5, Cond.code yX5_works cX5_works 3 none, Cond.fieldLink RX5 22 "GlassSpillModel" "raw" "[I", Cond.fieldLink RX5 25 "GlassSpillModel" "opaque" "[I", Cond.fieldLink RX5 37 "GlassSpillModel" "isOpen" "[I", Cond.fieldLink RX5 28 "GlassSpillModel" "kind" "[I", Cond.fieldLink RX5 31 "GlassSpillModel" "out" "[I", Cond.fieldLink RX5 34 "GlassSpillModel" "composed" "[I", Cond.methodLink RX5 83 yX5_mainPart, Cond.instanceMethod yX5_mainPart, Cond.selects RX5 yX5_mainPart yX5_mainPart, Cond.code yX5_mainPart cX5_mainPart 3 (some .int), Cond.methodLink RX5 53 yX5_partOf]
def wsX5_count_r2 : List Cond := [Cond.static yX5_partOf, Cond.code yX5_partOf cX5_partOf 2 (some .int), Cond.methodLink RX5 87 yX5_distanceOf, Cond.static yX5_distanceOf, Cond.code yX5_distanceOf cX5_distanceOf 2 (some .int), Cond.methodLink RX5 57 yX5_off, Cond.static yX5_off, Cond.code yX5_off cX5_off 1 (some .int), Cond.methodLink RX5 90 yX5_rawOf, Cond.instanceMethod yX5_rawOf, Cond.selects RX5 yX5_rawOf yX5_rawOf, Cond.code yX5_rawOf cX5_rawOf 2 (some .int), Cond.methodLink RX5 93 yX5_opens, Cond.instanceMethod yX5_opens, Cond.selects RX5 yX5_opens yX5_opens, Cond.code yX5_opens cX5_opens 5 none, Cond.methodLink RX5 72 yX5_isEdge, Cond.static yX5_isEdge, Cond.code yX5_isEdge cX5_isEdge 1 (some .boolean), Cond.methodLink RX5 76 yX5_beside, Cond.static yX5_beside, Cond.code yX5_beside cX5_beside 4 (some .int), Cond.constantLong RX5 70 (5), Cond.methodLink RX5 66 yX5_in]
def wsX5_count_r3 : List Cond := [Cond.static yX5_in, Cond.code yX5_in cX5_in 6 (some .boolean), Cond.methodLink RX5 96 yX5_kindOf, Cond.instanceMethod yX5_kindOf, Cond.selects RX5 yX5_kindOf yX5_kindOf, Cond.code yX5_kindOf cX5_kindOf 2 (some .int), Cond.methodLink RX5 79 yX5_isBeside, Cond.instanceMethod yX5_isBeside, Cond.selects RX5 yX5_isBeside yX5_isBeside, Cond.code yX5_isBeside cX5_isBeside 6 (some .boolean), Cond.methodLink RX5 99 yX5_spillOf, Cond.static yX5_spillOf, Cond.code yX5_spillOf cX5_spillOf 3 (some .int), Cond.methodLink RX5 61 yX5_greater, Cond.static yX5_greater, Cond.code yX5_greater cX5_greater 2 (some .int), Cond.methodLink RX5 102 yX5_shareOf, Cond.instanceMethod yX5_shareOf, Cond.selects RX5 yX5_shareOf yX5_shareOf, Cond.code yX5_shareOf cX5_shareOf 2 (some .int), Cond.methodLink RX5 105 yX5_without, Cond.static yX5_without, Cond.code yX5_without cX5_without 3 (some .int), Cond.methodLink RX5 109 yX5_composes]
def wsX5_count_r4 : List Cond := [Cond.instanceMethod yX5_composes, Cond.selects RX5 yX5_composes yX5_composes, Cond.code yX5_composes cX5_composes 6 (some .int), Cond.methodLink RX5 153 yX5_ofKind, Cond.instanceMethod yX5_ofKind, Cond.selects RX5 yX5_ofKind yX5_ofKind, Cond.code yX5_ofKind cX5_ofKind 4 (some .int), Cond.methodLink RX5 160 yX5_over, Cond.instanceMethod yX5_over, Cond.selects RX5 yX5_over yX5_over, Cond.code yX5_over cX5_over 6 (some .int), Cond.methodLink RX5 143 yX5_marked, Cond.instanceMethod yX5_marked, Cond.selects RX5 yX5_marked yX5_marked, Cond.code yX5_marked cX5_marked 3 (some .int)]
def wsX5_count : List Cond := .code yX5_count cX5_count 2 (some .int) :: ((wsX5_count_r1 ++ (wsX5_count_r2 ++ (wsX5_count_r3 ++ wsX5_count_r4))) ++ wsX50)
def wsX5_row_r1 : List Cond := [Cond.constantLong RX5 70 (5), Cond.constantLong RX5 166 (4), Cond.fieldLink RX5 28 "GlassSpillModel" "kind" "[I", Cond.methodLink RX5 66 yX5_in, Cond.static yX5_in, Cond.initialized RX5, Cond.code yX5_in cX5_in 6 (some .boolean), Cond.methodLink RX5 146 yX5_works, Cond.instanceMethod yX5_works, Cond.selects RX5 yX5_works yX5_works, Cond.code yX5_works cX5_works 3 none, Cond.fieldLink RX5 22 "GlassSpillModel" "raw" "[I", Cond.fieldLink RX5 7 "GlassSpillModel" "all" "[I", Cond.fieldLink RX5 25 "GlassSpillModel" "opaque" "[I", Cond.fieldLink RX5 37 "GlassSpillModel" "isOpen" "[I", Cond.fieldLink RX5 31 "GlassSpillModel" "out" "[I", Cond.fieldLink RX5 34 "GlassSpillModel" "composed" "[I", Cond.methodLink RX5 83 yX5_mainPart, Cond.instanceMethod yX5_mainPart, Cond.selects RX5 yX5_mainPart yX5_mainPart, Cond.code yX5_mainPart cX5_mainPart 3 (some .int), Cond.methodLink RX5 53 yX5_partOf, Cond.static yX5_partOf, Cond.code yX5_partOf cX5_partOf 2 (some .int)]
def wsX5_row_r2 : List Cond := [Cond.methodLink RX5 87 yX5_distanceOf, Cond.static yX5_distanceOf, Cond.code yX5_distanceOf cX5_distanceOf 2 (some .int), Cond.methodLink RX5 57 yX5_off, Cond.static yX5_off, Cond.code yX5_off cX5_off 1 (some .int), Cond.methodLink RX5 90 yX5_rawOf, Cond.instanceMethod yX5_rawOf, Cond.selects RX5 yX5_rawOf yX5_rawOf, Cond.code yX5_rawOf cX5_rawOf 2 (some .int), Cond.methodLink RX5 93 yX5_opens, Cond.instanceMethod yX5_opens, Cond.selects RX5 yX5_opens yX5_opens, Cond.code yX5_opens cX5_opens 5 none, Cond.methodLink RX5 72 yX5_isEdge, Cond.static yX5_isEdge, Cond.code yX5_isEdge cX5_isEdge 1 (some .boolean), Cond.methodLink RX5 76 yX5_beside, Cond.static yX5_beside, Cond.code yX5_beside cX5_beside 4 (some .int), Cond.constantLong RX5 64 (7), Cond.methodLink RX5 96 yX5_kindOf, Cond.instanceMethod yX5_kindOf, Cond.selects RX5 yX5_kindOf yX5_kindOf]
def wsX5_row_r3 : List Cond := [Cond.code yX5_kindOf cX5_kindOf 2 (some .int), Cond.methodLink RX5 79 yX5_isBeside, Cond.instanceMethod yX5_isBeside, Cond.selects RX5 yX5_isBeside yX5_isBeside, Cond.code yX5_isBeside cX5_isBeside 6 (some .boolean), Cond.methodLink RX5 99 yX5_spillOf, Cond.static yX5_spillOf, Cond.code yX5_spillOf cX5_spillOf 3 (some .int), Cond.methodLink RX5 61 yX5_greater, Cond.static yX5_greater, Cond.code yX5_greater cX5_greater 2 (some .int), Cond.methodLink RX5 102 yX5_shareOf, Cond.instanceMethod yX5_shareOf, Cond.selects RX5 yX5_shareOf yX5_shareOf, Cond.code yX5_shareOf cX5_shareOf 2 (some .int), Cond.methodLink RX5 105 yX5_without, Cond.static yX5_without, Cond.code yX5_without cX5_without 3 (some .int), Cond.methodLink RX5 109 yX5_composes, Cond.instanceMethod yX5_composes, Cond.selects RX5 yX5_composes yX5_composes, Cond.code yX5_composes cX5_composes 6 (some .int)]
def wsX5_row : List Cond := .code yX5_row cX5_row 5 (some .int) :: ((wsX5_row_r1 ++ (wsX5_row_r2 ++ wsX5_row_r3)) ++ wsX50)
def wsX5_bestScreen_r1 : List Cond := [Cond.fieldLink RX5 7 "GlassSpillModel" "all" "[I", Cond.methodLink RX5 66 yX5_in, Cond.static yX5_in, Cond.initialized RX5, Cond.code yX5_in cX5_in 6 (some .boolean), Cond.methodLink RX5 146 yX5_works, Cond.instanceMethod yX5_works, Cond.selects RX5 yX5_works yX5_works, Cond.code yX5_works cX5_works 3 none, Cond.fieldLink RX5 22 "GlassSpillModel" "raw" "[I", Cond.fieldLink RX5 25 "GlassSpillModel" "opaque" "[I", Cond.fieldLink RX5 37 "GlassSpillModel" "isOpen" "[I", Cond.fieldLink RX5 28 "GlassSpillModel" "kind" "[I", Cond.fieldLink RX5 31 "GlassSpillModel" "out" "[I", Cond.fieldLink RX5 34 "GlassSpillModel" "composed" "[I", Cond.methodLink RX5 83 yX5_mainPart, Cond.instanceMethod yX5_mainPart, Cond.selects RX5 yX5_mainPart yX5_mainPart, Cond.code yX5_mainPart cX5_mainPart 3 (some .int), Cond.methodLink RX5 53 yX5_partOf, Cond.static yX5_partOf, Cond.code yX5_partOf cX5_partOf 2 (some .int), Cond.methodLink RX5 87 yX5_distanceOf, Cond.static yX5_distanceOf]
def wsX5_bestScreen_r2 : List Cond := [Cond.code yX5_distanceOf cX5_distanceOf 2 (some .int), Cond.methodLink RX5 57 yX5_off, Cond.static yX5_off, Cond.code yX5_off cX5_off 1 (some .int), Cond.methodLink RX5 90 yX5_rawOf, Cond.instanceMethod yX5_rawOf, Cond.selects RX5 yX5_rawOf yX5_rawOf, Cond.code yX5_rawOf cX5_rawOf 2 (some .int), Cond.methodLink RX5 93 yX5_opens, Cond.instanceMethod yX5_opens, Cond.selects RX5 yX5_opens yX5_opens, Cond.code yX5_opens cX5_opens 5 none, Cond.methodLink RX5 72 yX5_isEdge, Cond.static yX5_isEdge, Cond.code yX5_isEdge cX5_isEdge 1 (some .boolean), Cond.methodLink RX5 76 yX5_beside, Cond.static yX5_beside, Cond.code yX5_beside cX5_beside 4 (some .int), Cond.constantLong RX5 64 (7), Cond.constantLong RX5 70 (5), Cond.methodLink RX5 96 yX5_kindOf, Cond.instanceMethod yX5_kindOf, Cond.selects RX5 yX5_kindOf yX5_kindOf, Cond.code yX5_kindOf cX5_kindOf 2 (some .int)]
def wsX5_bestScreen_r3 : List Cond := [Cond.methodLink RX5 79 yX5_isBeside, Cond.instanceMethod yX5_isBeside, Cond.selects RX5 yX5_isBeside yX5_isBeside, Cond.code yX5_isBeside cX5_isBeside 6 (some .boolean), Cond.methodLink RX5 99 yX5_spillOf, Cond.static yX5_spillOf, Cond.code yX5_spillOf cX5_spillOf 3 (some .int), Cond.methodLink RX5 61 yX5_greater, Cond.static yX5_greater, Cond.code yX5_greater cX5_greater 2 (some .int), Cond.methodLink RX5 102 yX5_shareOf, Cond.instanceMethod yX5_shareOf, Cond.selects RX5 yX5_shareOf yX5_shareOf, Cond.code yX5_shareOf cX5_shareOf 2 (some .int), Cond.methodLink RX5 105 yX5_without, Cond.static yX5_without, Cond.code yX5_without cX5_without 3 (some .int), Cond.methodLink RX5 109 yX5_composes, Cond.instanceMethod yX5_composes, Cond.selects RX5 yX5_composes yX5_composes, Cond.code yX5_composes cX5_composes 6 (some .int), Cond.methodLink RX5 153 yX5_ofKind, Cond.instanceMethod yX5_ofKind, Cond.selects RX5 yX5_ofKind yX5_ofKind]
def wsX5_bestScreen_r4 : List Cond := [Cond.code yX5_ofKind cX5_ofKind 4 (some .int)]
def wsX5_bestScreen : List Cond := .code yX5_bestScreen cX5_bestScreen 7 (some .int) :: ((wsX5_bestScreen_r1 ++ (wsX5_bestScreen_r2 ++ (wsX5_bestScreen_r3 ++ wsX5_bestScreen_r4))) ++ wsX50)
def wsX5_leastNear : List Cond := .code yX5_leastNear cX5_leastNear 3 (some .int) :: ([.fieldLink RX5 7 "GlassSpillModel" "all" "[I", .methodLink RX5 132 yX5_isPixel, .static yX5_isPixel, .initialized RX5, .code yX5_isPixel cX5_isPixel 1 (some .boolean), .constantLong RX5 127 (47), .methodLink RX5 66 yX5_in, .static yX5_in, .code yX5_in cX5_in 6 (some .boolean), .methodLink RX5 87 yX5_distanceOf, .static yX5_distanceOf, .code yX5_distanceOf cX5_distanceOf 2 (some .int), .methodLink RX5 53 yX5_partOf, .static yX5_partOf, .code yX5_partOf cX5_partOf 2 (some .int), .methodLink RX5 57 yX5_off, .static yX5_off, .code yX5_off cX5_off 1 (some .int)] ++ wsX50)
def wsX5_ifSet_r1 : List Cond := [Cond.fieldLink RX5 40 "GlassSpillModel" "was" "[I", Cond.fieldLink RX5 34 "GlassSpillModel" "composed" "[I", Cond.fieldLink RX5 7 "GlassSpillModel" "all" "[I", Cond.methodLink RX5 116 yX5_isSetting, Cond.static yX5_isSetting, Cond.initialized RX5, Cond.code yX5_isSetting cX5_isSetting 2 (some .boolean), Cond.constantLong RX5 112 (45), Cond.constantLong RX5 114 (16), Cond.methodLink RX5 66 yX5_in, Cond.static yX5_in, Cond.code yX5_in cX5_in 6 (some .boolean), Cond.methodLink RX5 119 yX5_isOrdered, Cond.instanceMethod yX5_isOrdered, Cond.selects RX5 yX5_isOrdered yX5_isOrdered, Cond.code yX5_isOrdered cX5_isOrdered 5 (some .boolean), Cond.methodLink RX5 146 yX5_works, Cond.instanceMethod yX5_works, Cond.selects RX5 yX5_works yX5_works, Cond.code yX5_works cX5_works 3 none, Cond.fieldLink RX5 22 "GlassSpillModel" "raw" "[I", Cond.fieldLink RX5 25 "GlassSpillModel" "opaque" "[I", Cond.fieldLink RX5 37 "GlassSpillModel" "isOpen" "[I", Cond.fieldLink RX5 28 "GlassSpillModel" "kind" "[I"]
def wsX5_ifSet_r2 : List Cond := [Cond.fieldLink RX5 31 "GlassSpillModel" "out" "[I", Cond.methodLink RX5 83 yX5_mainPart, Cond.instanceMethod yX5_mainPart, Cond.selects RX5 yX5_mainPart yX5_mainPart, Cond.code yX5_mainPart cX5_mainPart 3 (some .int), Cond.methodLink RX5 53 yX5_partOf, Cond.static yX5_partOf, Cond.code yX5_partOf cX5_partOf 2 (some .int), Cond.methodLink RX5 87 yX5_distanceOf, Cond.static yX5_distanceOf, Cond.code yX5_distanceOf cX5_distanceOf 2 (some .int), Cond.methodLink RX5 57 yX5_off, Cond.static yX5_off, Cond.code yX5_off cX5_off 1 (some .int), Cond.methodLink RX5 90 yX5_rawOf, Cond.instanceMethod yX5_rawOf, Cond.selects RX5 yX5_rawOf yX5_rawOf, Cond.code yX5_rawOf cX5_rawOf 2 (some .int), Cond.methodLink RX5 93 yX5_opens, Cond.instanceMethod yX5_opens, Cond.selects RX5 yX5_opens yX5_opens, Cond.code yX5_opens cX5_opens 5 none, Cond.methodLink RX5 72 yX5_isEdge, Cond.static yX5_isEdge]
def wsX5_ifSet_r3 : List Cond := [Cond.code yX5_isEdge cX5_isEdge 1 (some .boolean), Cond.methodLink RX5 76 yX5_beside, Cond.static yX5_beside, Cond.code yX5_beside cX5_beside 4 (some .int), Cond.constantLong RX5 64 (7), Cond.constantLong RX5 70 (5), Cond.methodLink RX5 96 yX5_kindOf, Cond.instanceMethod yX5_kindOf, Cond.selects RX5 yX5_kindOf yX5_kindOf, Cond.code yX5_kindOf cX5_kindOf 2 (some .int), Cond.methodLink RX5 79 yX5_isBeside, Cond.instanceMethod yX5_isBeside, Cond.selects RX5 yX5_isBeside yX5_isBeside, Cond.code yX5_isBeside cX5_isBeside 6 (some .boolean), Cond.methodLink RX5 99 yX5_spillOf, Cond.static yX5_spillOf, Cond.code yX5_spillOf cX5_spillOf 3 (some .int), Cond.methodLink RX5 61 yX5_greater, Cond.static yX5_greater, Cond.code yX5_greater cX5_greater 2 (some .int), Cond.methodLink RX5 102 yX5_shareOf, Cond.instanceMethod yX5_shareOf, Cond.selects RX5 yX5_shareOf yX5_shareOf, Cond.code yX5_shareOf cX5_shareOf 2 (some .int)]
def wsX5_ifSet_r4 : List Cond := [Cond.methodLink RX5 105 yX5_without, Cond.static yX5_without, Cond.code yX5_without cX5_without 3 (some .int), Cond.methodLink RX5 109 yX5_composes, Cond.instanceMethod yX5_composes, Cond.selects RX5 yX5_composes yX5_composes, Cond.code yX5_composes cX5_composes 6 (some .int)]
def wsX5_ifSet : List Cond := .code yX5_ifSet cX5_ifSet 6 (some .int) :: ((wsX5_ifSet_r1 ++ (wsX5_ifSet_r2 ++ (wsX5_ifSet_r3 ++ wsX5_ifSet_r4))) ++ wsX50)
def wsX5_spillLeft : List Cond := .code yX5_spillLeft cX5_spillLeft 4 (some .int) :: ([.fieldLink RX5 34 "GlassSpillModel" "composed" "[I", .methodLink RX5 83 yX5_mainPart, .instanceMethod yX5_mainPart, .selects RX5 yX5_mainPart yX5_mainPart, .initialized RX5, .code yX5_mainPart cX5_mainPart 3 (some .int), .fieldLink RX5 7 "GlassSpillModel" "all" "[I", .methodLink RX5 53 yX5_partOf, .static yX5_partOf, .code yX5_partOf cX5_partOf 2 (some .int), .methodLink RX5 99 yX5_spillOf, .static yX5_spillOf, .code yX5_spillOf cX5_spillOf 3 (some .int), .methodLink RX5 61 yX5_greater, .static yX5_greater, .code yX5_greater cX5_greater 2 (some .int)] ++ wsX50)
def wsX5_bestShare_r1 : List Cond := [Cond.constantLong RX5 168 (2), Cond.constantLong RX5 166 (4), Cond.fieldLink RX5 7 "GlassSpillModel" "all" "[I", Cond.methodLink RX5 66 yX5_in, Cond.static yX5_in, Cond.initialized RX5, Cond.code yX5_in cX5_in 6 (some .boolean), Cond.methodLink RX5 146 yX5_works, Cond.instanceMethod yX5_works, Cond.selects RX5 yX5_works yX5_works, Cond.code yX5_works cX5_works 3 none, Cond.fieldLink RX5 22 "GlassSpillModel" "raw" "[I", Cond.fieldLink RX5 25 "GlassSpillModel" "opaque" "[I", Cond.fieldLink RX5 37 "GlassSpillModel" "isOpen" "[I", Cond.fieldLink RX5 28 "GlassSpillModel" "kind" "[I", Cond.fieldLink RX5 31 "GlassSpillModel" "out" "[I", Cond.fieldLink RX5 34 "GlassSpillModel" "composed" "[I", Cond.methodLink RX5 83 yX5_mainPart, Cond.instanceMethod yX5_mainPart, Cond.selects RX5 yX5_mainPart yX5_mainPart, Cond.code yX5_mainPart cX5_mainPart 3 (some .int), Cond.methodLink RX5 53 yX5_partOf, Cond.static yX5_partOf, Cond.code yX5_partOf cX5_partOf 2 (some .int)]
def wsX5_bestShare_r2 : List Cond := [Cond.methodLink RX5 87 yX5_distanceOf, Cond.static yX5_distanceOf, Cond.code yX5_distanceOf cX5_distanceOf 2 (some .int), Cond.methodLink RX5 57 yX5_off, Cond.static yX5_off, Cond.code yX5_off cX5_off 1 (some .int), Cond.methodLink RX5 90 yX5_rawOf, Cond.instanceMethod yX5_rawOf, Cond.selects RX5 yX5_rawOf yX5_rawOf, Cond.code yX5_rawOf cX5_rawOf 2 (some .int), Cond.methodLink RX5 93 yX5_opens, Cond.instanceMethod yX5_opens, Cond.selects RX5 yX5_opens yX5_opens, Cond.code yX5_opens cX5_opens 5 none, Cond.methodLink RX5 72 yX5_isEdge, Cond.static yX5_isEdge, Cond.code yX5_isEdge cX5_isEdge 1 (some .boolean), Cond.methodLink RX5 76 yX5_beside, Cond.static yX5_beside, Cond.code yX5_beside cX5_beside 4 (some .int), Cond.constantLong RX5 64 (7), Cond.constantLong RX5 70 (5), Cond.methodLink RX5 96 yX5_kindOf, Cond.instanceMethod yX5_kindOf]
def wsX5_bestShare_r3 : List Cond := [Cond.selects RX5 yX5_kindOf yX5_kindOf, Cond.code yX5_kindOf cX5_kindOf 2 (some .int), Cond.methodLink RX5 79 yX5_isBeside, Cond.instanceMethod yX5_isBeside, Cond.selects RX5 yX5_isBeside yX5_isBeside, Cond.code yX5_isBeside cX5_isBeside 6 (some .boolean), Cond.methodLink RX5 99 yX5_spillOf, Cond.static yX5_spillOf, Cond.code yX5_spillOf cX5_spillOf 3 (some .int), Cond.methodLink RX5 61 yX5_greater, Cond.static yX5_greater, Cond.code yX5_greater cX5_greater 2 (some .int), Cond.methodLink RX5 102 yX5_shareOf, Cond.instanceMethod yX5_shareOf, Cond.selects RX5 yX5_shareOf yX5_shareOf, Cond.code yX5_shareOf cX5_shareOf 2 (some .int), Cond.methodLink RX5 105 yX5_without, Cond.static yX5_without, Cond.code yX5_without cX5_without 3 (some .int), Cond.methodLink RX5 109 yX5_composes, Cond.instanceMethod yX5_composes, Cond.selects RX5 yX5_composes yX5_composes, Cond.code yX5_composes cX5_composes 6 (some .int), Cond.methodLink RX5 170 yX5_spillLeft]
def wsX5_bestShare_r4 : List Cond := [Cond.instanceMethod yX5_spillLeft, Cond.selects RX5 yX5_spillLeft yX5_spillLeft, Cond.code yX5_spillLeft cX5_spillLeft 4 (some .int)]
def wsX5_bestShare : List Cond := .code yX5_bestShare cX5_bestShare 9 (some .int) :: ((wsX5_bestShare_r1 ++ (wsX5_bestShare_r2 ++ (wsX5_bestShare_r3 ++ wsX5_bestShare_r4))) ++ wsX50)
def wsX5_charactersOf : List Cond := .code yX5_charactersOf cX5_charactersOf 5 (some .int) :: ([.constantLong RX5 173 (255), .constantLong RX5 175 (33), .constantLong RX5 177 (126), .methodLink RX5 66 yX5_in, .static yX5_in, .initialized RX5, .code yX5_in cX5_in 6 (some .boolean)])
def wsX5_put : List Cond := .code yX5_put cX5_put 5 (some .int) :: ([.fieldLink RX5 163 "GlassSpillModel" "textLong" "I", .fieldLink RX5 43 "GlassSpillModel" "text" "[I", .constantLong RX5 173 (255), .methodLink RX5 179 yX5_charactersOf, .static yX5_charactersOf, .initialized RX5, .code yX5_charactersOf cX5_charactersOf 5 (some .int), .constantLong RX5 175 (33), .constantLong RX5 177 (126), .methodLink RX5 66 yX5_in, .static yX5_in, .code yX5_in cX5_in 6 (some .boolean)] ++ wsX50)
def wsX5_wipe : List Cond := .code yX5_wipe cX5_wipe 2 (some .int) :: ([.fieldLink RX5 163 "GlassSpillModel" "textLong" "I"] ++ wsX50)
def wsX5_readsPart : List Cond := .code yX5_readsPart cX5_readsPart 3 (some .int) :: ([.fieldLink RX5 183 "GlassSpillModel" "spot" "I", .fieldLink RX5 163 "GlassSpillModel" "textLong" "I", .fieldLink RX5 43 "GlassSpillModel" "text" "[I", .constantLong RX5 186 (48), .constantLong RX5 188 (57), .constantLong RX5 190 (97), .constantLong RX5 192 (102), .methodLink RX5 66 yX5_in, .static yX5_in, .initialized RX5, .code yX5_in cX5_in 6 (some .boolean)] ++ wsX50)
def wsX5_readsColour : List Cond := .code yX5_readsColour cX5_readsColour 4 (some .boolean) :: ([.fieldLink RX5 46 "GlassSpillModel" "colours" "[I", .fieldLink RX5 194 "GlassSpillModel" "read" "I", .fieldLink RX5 183 "GlassSpillModel" "spot" "I", .fieldLink RX5 163 "GlassSpillModel" "textLong" "I", .fieldLink RX5 43 "GlassSpillModel" "text" "[I", .methodLink RX5 197 yX5_readsPart, .instanceMethod yX5_readsPart, .selects RX5 yX5_readsPart yX5_readsPart, .initialized RX5, .code yX5_readsPart cX5_readsPart 3 (some .int), .constantLong RX5 186 (48), .constantLong RX5 188 (57), .constantLong RX5 190 (97), .constantLong RX5 192 (102), .methodLink RX5 66 yX5_in, .static yX5_in, .code yX5_in cX5_in 6 (some .boolean)] ++ wsX50)
def wsX5_fault : List Cond := .code yX5_fault cX5_fault 2 (some .int) :: ([.fieldLink RX5 183 "GlassSpillModel" "spot" "I", .fieldLink RX5 194 "GlassSpillModel" "read" "I", .fieldLink RX5 163 "GlassSpillModel" "textLong" "I", .methodLink RX5 200 yX5_readsColour, .instanceMethod yX5_readsColour, .selects RX5 yX5_readsColour yX5_readsColour, .initialized RX5, .code yX5_readsColour cX5_readsColour 4 (some .boolean), .fieldLink RX5 46 "GlassSpillModel" "colours" "[I", .fieldLink RX5 43 "GlassSpillModel" "text" "[I", .methodLink RX5 197 yX5_readsPart, .instanceMethod yX5_readsPart, .selects RX5 yX5_readsPart yX5_readsPart, .code yX5_readsPart cX5_readsPart 3 (some .int), .constantLong RX5 186 (48), .constantLong RX5 188 (57), .constantLong RX5 190 (97), .constantLong RX5 192 (102), .methodLink RX5 66 yX5_in, .static yX5_in, .code yX5_in cX5_in 6 (some .boolean)] ++ wsX50)
def wsX5_read_r1 : List Cond := [Cond.constantLong RX5 70 (5), Cond.fieldLink RX5 194 "GlassSpillModel" "read" "I", Cond.fieldLink RX5 46 "GlassSpillModel" "colours" "[I", Cond.fieldLink RX5 7 "GlassSpillModel" "all" "[I", Cond.fieldLink RX5 163 "GlassSpillModel" "textLong" "I", Cond.methodLink RX5 66 yX5_in, Cond.static yX5_in, Cond.initialized RX5, Cond.code yX5_in cX5_in 6 (some .boolean), Cond.methodLink RX5 204 yX5_fault, Cond.instanceMethod yX5_fault, Cond.selects RX5 yX5_fault yX5_fault, Cond.code yX5_fault cX5_fault 2 (some .int), Cond.fieldLink RX5 183 "GlassSpillModel" "spot" "I", Cond.methodLink RX5 200 yX5_readsColour, Cond.instanceMethod yX5_readsColour, Cond.selects RX5 yX5_readsColour yX5_readsColour, Cond.code yX5_readsColour cX5_readsColour 4 (some .boolean), Cond.fieldLink RX5 43 "GlassSpillModel" "text" "[I", Cond.methodLink RX5 197 yX5_readsPart, Cond.instanceMethod yX5_readsPart, Cond.selects RX5 yX5_readsPart yX5_readsPart, Cond.code yX5_readsPart cX5_readsPart 3 (some .int), Cond.constantLong RX5 186 (48)]
def wsX5_read_r2 : List Cond := [Cond.constantLong RX5 188 (57), Cond.constantLong RX5 190 (97), Cond.constantLong RX5 192 (102), Cond.methodLink RX5 122 yX5_changes, Cond.instanceMethod yX5_changes, Cond.selects RX5 yX5_changes yX5_changes, Cond.code yX5_changes cX5_changes 2 none, Cond.fieldLink RX5 49 "GlassSpillModel" "historyLong" "I", Cond.fieldLink RX5 13 "GlassSpillModel" "history" "[I", Cond.methodLink RX5 135 yX5_picture, Cond.static yX5_picture, Cond.code yX5_picture cX5_picture 1 (some .int)]
def wsX5_read : List Cond := .code yX5_read cX5_read 5 (some .int) :: ((wsX5_read_r1 ++ wsX5_read_r2) ++ wsX50)
def wsX5_undo : List Cond := .code yX5_undo cX5_undo 2 (some .int) :: ([.fieldLink RX5 49 "GlassSpillModel" "historyLong" "I", .fieldLink RX5 7 "GlassSpillModel" "all" "[I", .fieldLink RX5 13 "GlassSpillModel" "history" "[I"] ++ wsX50)
def wsX5_isSlot : List Cond := .code yX5_isSlot cX5_isSlot 1 (some .boolean) :: ([])
def wsX5_save : List Cond := .code yX5_save cX5_save 3 (some .int) :: ([.fieldLink RX5 16 "GlassSpillModel" "slots" "[I", .fieldLink RX5 7 "GlassSpillModel" "all" "[I", .fieldLink RX5 19 "GlassSpillModel" "isSaved" "[I", .methodLink RX5 207 yX5_isSlot, .static yX5_isSlot, .initialized RX5, .code yX5_isSlot cX5_isSlot 1 (some .boolean), .methodLink RX5 143 yX5_marked, .instanceMethod yX5_marked, .selects RX5 yX5_marked yX5_marked, .code yX5_marked cX5_marked 3 (some .int)] ++ wsX50)
def wsX5_restore : List Cond := .code yX5_restore cX5_restore 3 (some .int) :: ([.fieldLink RX5 19 "GlassSpillModel" "isSaved" "[I", .fieldLink RX5 7 "GlassSpillModel" "all" "[I", .fieldLink RX5 16 "GlassSpillModel" "slots" "[I", .methodLink RX5 207 yX5_isSlot, .static yX5_isSlot, .initialized RX5, .code yX5_isSlot cX5_isSlot 1 (some .boolean), .methodLink RX5 122 yX5_changes, .instanceMethod yX5_changes, .selects RX5 yX5_changes yX5_changes, .code yX5_changes cX5_changes 2 none, .fieldLink RX5 49 "GlassSpillModel" "historyLong" "I", .fieldLink RX5 13 "GlassSpillModel" "history" "[I", .methodLink RX5 143 yX5_marked, .instanceMethod yX5_marked, .selects RX5 yX5_marked yX5_marked, .code yX5_marked cX5_marked 3 (some .int)] ++ wsX50)
def wsJ9_abs_0f7a4 : List Cond := .code yJ9_abs_0f7a4 cJ9_abs_0f7a4 1 (some .int) :: ([])
def wsJ9_max_7cf53 : List Cond := .code yJ9_max_7cf53 cJ9_max_7cf53 2 (some .int) :: ([])
def wsJ9_min_7cf53 : List Cond := .code yJ9_min_7cf53 cJ9_min_7cf53 2 (some .int) :: ([])
def wsL_law_r1 : List Cond := [Cond.classLink RL 7 RX4, Cond.instantiable RX4 7, Cond.initialized RX4, Cond.classLink RL 10 RX5, Cond.instantiable RX5 17, Cond.initialized RX5, Cond.constantLong RL 76 (4294967295), Cond.methodLink RL 9 yX4_init, Cond.instanceMethod yX4_init, Cond.code yX4_init cX4_init 1 none, Cond.methodLink RX4 1 objectInit, Cond.instanceMethod objectInit, Cond.code objectInit ⟨#[0xb1]⟩ 1 none, Cond.classLink RX4 7 RX2, Cond.instantiable RX2 5, Cond.initialized RX2, Cond.fieldLink RX4 10 "GlassSpill" "now" "LGlassSpill$Scene;", Cond.fieldLink RX4 16 "GlassSpill" "trial" "LGlassSpill$Scene;", Cond.classLink RX4 19 RX3, Cond.instantiable RX3 10, Cond.initialized RX3, Cond.fieldLink RX4 22 "GlassSpill" "shown" "LGlassSpill$View;", Cond.fieldLink RX4 26 "GlassSpill" "trialView" "LGlassSpill$View;", Cond.classLink RX4 29 RX1]
def wsL_law_r2 : List Cond := [Cond.instantiable RX1 2, Cond.initialized RX1, Cond.fieldLink RX4 32 "GlassSpill" "pad" "LGlassSpill$Pad;", Cond.classLink RX4 36 RX0, Cond.instantiable RX0 3, Cond.initialized RX0, Cond.fieldLink RX4 39 "GlassSpill" "history" "LGlassSpill$History;", Cond.fieldLink RX4 43 "GlassSpill" "slots" "[LGlassSpill$Scene;", Cond.methodLink RX4 9 yX2_init, Cond.instanceMethod yX2_init, Cond.code yX2_init cX2_init 1 none, Cond.methodLink RX2 3 objectInit, Cond.arrayClass .int, Cond.fieldLink RX2 9 "GlassSpill$Scene" "settings" "[I", Cond.fieldLink RX2 15 "GlassSpill$Scene" "front" "[I", Cond.fieldLink RX2 18 "GlassSpill$Scene" "back" "[I", Cond.arrayClass .boolean, Cond.fieldLink RX2 21 "GlassSpill$Scene" "glass" "[Z", Cond.fieldLink RX2 25 "GlassSpill$Scene" "screenColour" "I", Cond.methodLink RX2 32 arraycopyName, Cond.native arraycopyName, Cond.static arraycopyName, Cond.initialized "java/lang/System", Cond.instanceMethod yX3_init]
def wsL_law_r3 : List Cond := [Cond.code yX3_init cX3_init 1 none, Cond.methodLink RX3 3 objectInit, Cond.fieldLink RX3 9 "GlassSpill$View" "raw" "[I", Cond.fieldLink RX3 15 "GlassSpill$View" "opaque" "[I", Cond.fieldLink RX3 18 "GlassSpill$View" "kinds" "[I", Cond.fieldLink RX3 21 "GlassSpill$View" "spill" "[I", Cond.fieldLink RX3 24 "GlassSpill$View" "taken" "[I", Cond.fieldLink RX3 27 "GlassSpill$View" "cleaned" "[I", Cond.fieldLink RX3 30 "GlassSpill$View" "composed" "[I", Cond.fieldLink RX3 33 "GlassSpill$View" "reached" "[Z", Cond.fieldLink RX3 37 "GlassSpill$View" "queue" "[I", Cond.fieldLink RX3 40 "GlassSpill$View" "queued" "I", Cond.instanceMethod yX1_init, Cond.code yX1_init cX1_init 1 none, Cond.methodLink RX1 3 objectInit, Cond.fieldLink RX1 9 "GlassSpill$Pad" "codes" "[I", Cond.fieldLink RX1 15 "GlassSpill$Pad" "length" "I", Cond.methodLink RX4 38 yX0_init, Cond.instanceMethod yX0_init, Cond.code yX0_init cX0_init 2 none, Cond.methodLink RX0 3 objectInit, Cond.classLink RX0 9 RX2, Cond.fieldLink RX0 11 "GlassSpill$History" "states" "[LGlassSpill$Scene;", Cond.fieldLink RX0 17 "GlassSpill$History" "oldest" "I"]
def wsL_law_r4 : List Cond := [Cond.fieldLink RX0 21 "GlassSpill$History" "size" "I", Cond.methodLink RX0 24 yX2_init, Cond.methodLink RL 12 yX5_init, Cond.instanceMethod yX5_init, Cond.code yX5_init cX5_init 1 none, Cond.methodLink RX5 1 objectInit, Cond.fieldLink RX5 7 "GlassSpillModel" "all" "[I", Cond.fieldLink RX5 13 "GlassSpillModel" "history" "[I", Cond.fieldLink RX5 16 "GlassSpillModel" "slots" "[I", Cond.fieldLink RX5 19 "GlassSpillModel" "isSaved" "[I", Cond.fieldLink RX5 22 "GlassSpillModel" "raw" "[I", Cond.fieldLink RX5 25 "GlassSpillModel" "opaque" "[I", Cond.fieldLink RX5 28 "GlassSpillModel" "kind" "[I", Cond.fieldLink RX5 31 "GlassSpillModel" "out" "[I", Cond.fieldLink RX5 34 "GlassSpillModel" "composed" "[I", Cond.fieldLink RX5 37 "GlassSpillModel" "isOpen" "[I", Cond.fieldLink RX5 40 "GlassSpillModel" "was" "[I", Cond.fieldLink RX5 43 "GlassSpillModel" "text" "[I", Cond.fieldLink RX5 46 "GlassSpillModel" "colours" "[I", Cond.methodLink RL 13 yX4_set, Cond.instanceMethod yX4_set, Cond.selects RX4 yX4_set yX4_set, Cond.code yX4_set cX4_set 4 (some .int), Cond.methodLink RX4 47 yX4_errorOfSetting]
def wsL_law_r5 : List Cond := [Cond.instanceMethod yX4_errorOfSetting, Cond.selects RX4 yX4_errorOfSetting yX4_errorOfSetting, Cond.code yX4_errorOfSetting cX4_errorOfSetting 5 (some .int), Cond.fieldLink RX4 180 "GlassSpill" "HIGHEST_VALUES" "[I", Cond.fieldLink RX4 137 "GlassSpill$Scene" "settings" "[I", Cond.methodLink RX4 177 yX4_isSetting, Cond.static yX4_isSetting, Cond.code yX4_isSetting cX4_isSetting 1 (some .boolean), Cond.methodLink RX4 51 yX0_remember, Cond.instanceMethod yX0_remember, Cond.selects RX0 yX0_remember yX0_remember, Cond.code yX0_remember cX0_remember 3 none, Cond.methodLink RX0 25 yJ9_floorMod_7cf53, Cond.static yJ9_floorMod_7cf53, Cond.initialized RJ9, Cond.code yJ9_floorMod_7cf53 cJ9_floorMod_7cf53 3 (some .int), Cond.methodLink RX0 31 yX2_copyFrom, Cond.instanceMethod yX2_copyFrom, Cond.selects RX2 yX2_copyFrom yX2_copyFrom, Cond.code yX2_copyFrom cX2_copyFrom 3 none, Cond.methodLink RX4 55 yX2_changeSetting, Cond.instanceMethod yX2_changeSetting, Cond.selects RX2 yX2_changeSetting yX2_changeSetting, Cond.code yX2_changeSetting cX2_changeSetting 4 (some .int)]
def wsL_law_r6 : List Cond := [Cond.methodLink RL 17 yX5_set, Cond.instanceMethod yX5_set, Cond.selects RX5 yX5_set yX5_set, Cond.code yX5_set cX5_set 4 (some .int), Cond.methodLink RX5 116 yX5_isSetting, Cond.static yX5_isSetting, Cond.code yX5_isSetting cX5_isSetting 2 (some .boolean), Cond.constantLong RX5 112 (45), Cond.constantLong RX5 114 (16), Cond.methodLink RX5 66 yX5_in, Cond.static yX5_in, Cond.code yX5_in cX5_in 6 (some .boolean), Cond.methodLink RX5 119 yX5_isOrdered, Cond.instanceMethod yX5_isOrdered, Cond.selects RX5 yX5_isOrdered yX5_isOrdered, Cond.code yX5_isOrdered cX5_isOrdered 5 (some .boolean), Cond.methodLink RX5 122 yX5_changes, Cond.instanceMethod yX5_changes, Cond.selects RX5 yX5_changes yX5_changes, Cond.code yX5_changes cX5_changes 2 none, Cond.fieldLink RX5 49 "GlassSpillModel" "historyLong" "I", Cond.methodLink RL 18 yX4_screen, Cond.instanceMethod yX4_screen, Cond.selects RX4 yX4_screen yX4_screen]
def wsL_law_r7 : List Cond := [Cond.code yX4_screen cX4_screen 3 (some .int), Cond.fieldLink RX4 62 "GlassSpill$Scene" "screenColour" "I", Cond.methodLink RX4 58 yX4_isColour, Cond.static yX4_isColour, Cond.code yX4_isColour cX4_isColour 1 (some .boolean), Cond.methodLink RL 22 yX5_screen, Cond.instanceMethod yX5_screen, Cond.selects RX5 yX5_screen yX5_screen, Cond.code yX5_screen cX5_screen 3 (some .int), Cond.methodLink RX5 129 yX5_isColour, Cond.static yX5_isColour, Cond.code yX5_isColour cX5_isColour 1 (some .boolean), Cond.constantLong RX5 125 (4095), Cond.methodLink RL 23 yX4_paint, Cond.instanceMethod yX4_paint, Cond.selects RX4 yX4_paint yX4_paint, Cond.code yX4_paint cX4_paint 6 (some .int), Cond.methodLink RX4 66 yX4_isPixel, Cond.static yX4_isPixel, Cond.code yX4_isPixel cX4_isPixel 1 (some .boolean), Cond.methodLink RX4 69 yX2_picture, Cond.instanceMethod yX2_picture, Cond.selects RX2 yX2_picture yX2_picture, Cond.code yX2_picture cX2_picture 2 (some (.array .int))]
def wsL_law_r8 : List Cond := [Cond.methodLink RL 27 yX5_paint, Cond.instanceMethod yX5_paint, Cond.selects RX5 yX5_paint yX5_paint, Cond.code yX5_paint cX5_paint 5 (some .int), Cond.methodLink RX5 132 yX5_isPixel, Cond.static yX5_isPixel, Cond.code yX5_isPixel cX5_isPixel 1 (some .boolean), Cond.constantLong RX5 127 (47), Cond.methodLink RX5 135 yX5_picture, Cond.static yX5_picture, Cond.code yX5_picture cX5_picture 1 (some .int), Cond.methodLink RL 28 yX4_fill, Cond.instanceMethod yX4_fill, Cond.selects RX4 yX4_fill yX4_fill, Cond.code yX4_fill cX4_fill 5 (some .int), Cond.methodLink RX4 73 yX4_fillBetween, Cond.static yX4_fillBetween, Cond.code yX4_fillBetween cX4_fillBetween 10 (some .int), Cond.methodLink RX4 185 Lib.Math.min.name, Cond.static Lib.Math.min.name, Cond.initialized "java/lang/Math", Cond.code Lib.Math.min.name Lib.Math.min.code 2 (some .int), Cond.methodLink RX4 190 Lib.Math.max.name, Cond.static Lib.Math.max.name]
def wsL_law_r9 : List Cond := [Cond.code Lib.Math.max.name Lib.Math.max.code 2 (some .int), Cond.methodLink RL 32 yX5_fill, Cond.instanceMethod yX5_fill, Cond.selects RX5 yX5_fill yX5_fill, Cond.code yX5_fill cX5_fill 7 (some .int), Cond.methodLink RX5 139 yX5_isBetween, Cond.static yX5_isBetween, Cond.code yX5_isBetween cX5_isBetween 3 (some .boolean), Cond.methodLink RL 33 yX4_read, Cond.instanceMethod yX4_read, Cond.selects RX4 yX4_read yX4_read, Cond.code yX4_read cX4_read 4 (some .int), Cond.fieldLink RX4 88 "GlassSpill$Pad" "length" "I", Cond.methodLink RX4 77 yX4_isRow, Cond.static yX4_isRow, Cond.code yX4_isRow cX4_isRow 1 (some .boolean), Cond.methodLink RX4 80 yX1_firstFault, Cond.instanceMethod yX1_firstFault, Cond.selects RX1 yX1_firstFault yX1_firstFault, Cond.code yX1_firstFault cX1_firstFault 4 (some .int), Cond.methodLink RX1 21 yX1_partOf, Cond.static yX1_partOf, Cond.code yX1_partOf cX1_partOf 1 (some .int), Cond.methodLink RX4 84 yX1_paintOn]
def wsL_law_r10 : List Cond := [Cond.instanceMethod yX1_paintOn, Cond.selects RX1 yX1_paintOn yX1_paintOn, Cond.code yX1_paintOn cX1_paintOn 8 (some .int), Cond.methodLink RL 37 yX5_read, Cond.instanceMethod yX5_read, Cond.selects RX5 yX5_read yX5_read, Cond.code yX5_read cX5_read 5 (some .int), Cond.constantLong RX5 70 (5), Cond.fieldLink RX5 194 "GlassSpillModel" "read" "I", Cond.fieldLink RX5 163 "GlassSpillModel" "textLong" "I", Cond.methodLink RX5 204 yX5_fault, Cond.instanceMethod yX5_fault, Cond.selects RX5 yX5_fault yX5_fault, Cond.code yX5_fault cX5_fault 2 (some .int), Cond.fieldLink RX5 183 "GlassSpillModel" "spot" "I", Cond.methodLink RX5 200 yX5_readsColour, Cond.instanceMethod yX5_readsColour, Cond.selects RX5 yX5_readsColour yX5_readsColour, Cond.code yX5_readsColour cX5_readsColour 4 (some .boolean), Cond.methodLink RX5 197 yX5_readsPart, Cond.instanceMethod yX5_readsPart, Cond.selects RX5 yX5_readsPart yX5_readsPart, Cond.code yX5_readsPart cX5_readsPart 3 (some .int), Cond.constantLong RX5 186 (48)]
def wsL_law_r11 : List Cond := [Cond.constantLong RX5 188 (57), Cond.constantLong RX5 190 (97), Cond.constantLong RX5 192 (102), Cond.methodLink RL 38 yX4_mark, Cond.instanceMethod yX4_mark, Cond.selects RX4 yX4_mark yX4_mark, Cond.code yX4_mark cX4_mark 3 (some .int), Cond.fieldLink RX4 91 "GlassSpill$Scene" "glass" "[Z", Cond.methodLink RX4 95 yX2_marked, Cond.instanceMethod yX2_marked, Cond.selects RX2 yX2_marked yX2_marked, Cond.code yX2_marked cX2_marked 3 (some .int), Cond.methodLink RL 42 yX5_mark, Cond.instanceMethod yX5_mark, Cond.selects RX5 yX5_mark yX5_mark, Cond.code yX5_mark cX5_mark 4 (some .int), Cond.methodLink RX5 143 yX5_marked, Cond.instanceMethod yX5_marked, Cond.selects RX5 yX5_marked yX5_marked, Cond.code yX5_marked cX5_marked 3 (some .int), Cond.methodLink RL 43 yX4_keep, Cond.instanceMethod yX4_keep, Cond.selects RX4 yX4_keep yX4_keep, Cond.code yX4_keep cX4_keep 3 (some .int)]
def wsL_law_r12 : List Cond := [Cond.fieldLink RX4 101 "GlassSpill$View" "composed" "[I", Cond.fieldLink RX4 105 "GlassSpill$Scene" "front" "[I", Cond.methodLink RX4 98 yX3_show, Cond.instanceMethod yX3_show, Cond.selects RX3 yX3_show yX3_show, Cond.code yX3_show cX3_show 2 none, Cond.methodLink RX3 44 yX3_findOpaque, Cond.instanceMethod yX3_findOpaque, Cond.selects RX3 yX3_findOpaque yX3_findOpaque, Cond.code yX3_findOpaque cX3_findOpaque 5 none, Cond.fieldLink RX3 70 "GlassSpill$Scene" "settings" "[I", Cond.methodLink RX3 73 yX2_distanceOf, Cond.instanceMethod yX2_distanceOf, Cond.selects RX2 yX2_distanceOf yX2_distanceOf, Cond.code yX2_distanceOf cX2_distanceOf 2 (some .int), Cond.static yX4_distance, Cond.code yX4_distance cX4_distance 4 (some .int), Cond.methodLink RX4 199 Lib.Math.abs.name, Cond.static Lib.Math.abs.name, Cond.code Lib.Math.abs.name Lib.Math.abs.code 1 (some .int), Cond.methodLink RX4 196 yX4_part, Cond.static yX4_part, Cond.code yX4_part cX4_part 2 (some .int), Cond.methodLink RX4 193 yX4_partShift]
def wsL_law_r13 : List Cond := [Cond.static yX4_partShift, Cond.code yX4_partShift cX4_partShift 1 (some .int), Cond.methodLink RX3 76 yX3_rawOpaque, Cond.static yX3_rawOpaque, Cond.code yX3_rawOpaque cX3_rawOpaque 3 (some .int), Cond.methodLink RX3 80 yX3_closeHoles, Cond.instanceMethod yX3_closeHoles, Cond.selects RX3 yX3_closeHoles yX3_closeHoles, Cond.code yX3_closeHoles cX3_closeHoles 2 none, Cond.methodLink RX3 83 yX3_reachFromEdge, Cond.instanceMethod yX3_reachFromEdge, Cond.selects RX3 yX3_reachFromEdge yX3_reachFromEdge, Cond.code yX3_reachFromEdge cX3_reachFromEdge 3 none, Cond.static yX4_isAtEdge, Cond.code yX4_isAtEdge cX4_isAtEdge 3 (some .boolean), Cond.methodLink RX3 90 yX3_reach, Cond.instanceMethod yX3_reach, Cond.selects RX3 yX3_reach yX3_reach, Cond.code yX3_reach cX3_reach 2 none, Cond.static yX4_beside, Cond.code yX4_beside cX4_beside 3 (some .int), Cond.methodLink RX3 48 yX3_findKinds, Cond.instanceMethod yX3_findKinds, Cond.selects RX3 yX3_findKinds yX3_findKinds]
def wsL_law_r14 : List Cond := [Cond.code yX3_findKinds cX3_findKinds 3 none, Cond.fieldLink RX3 54 "GlassSpill$Scene" "glass" "[Z", Cond.methodLink RX3 100 yX3_unmarkedKind, Cond.instanceMethod yX3_unmarkedKind, Cond.selects RX3 yX3_unmarkedKind yX3_unmarkedKind, Cond.code yX3_unmarkedKind cX3_unmarkedKind 2 (some .int), Cond.methodLink RX3 103 yX3_isOneBeside, Cond.instanceMethod yX3_isOneBeside, Cond.selects RX3 yX3_isOneBeside yX3_isOneBeside, Cond.code yX3_isOneBeside cX3_isOneBeside 5 (some .boolean), Cond.methodLink RX3 51 yX3_compose, Cond.instanceMethod yX3_compose, Cond.selects RX3 yX3_compose yX3_compose, Cond.code yX3_compose cX3_compose 4 none, Cond.fieldLink RX3 59 "GlassSpill$Scene" "screenColour" "I", Cond.fieldLink RX3 107 "GlassSpill$Scene" "front" "[I", Cond.fieldLink RX3 117 "GlassSpill$Scene" "back" "[I", Cond.static yX4_mainPart, Cond.code yX4_mainPart cX4_mainPart 3 (some .int), Cond.static yX4_spillIn, Cond.code yX4_spillIn cX4_spillIn 4 (some .int), Cond.methodLink RX3 110 yX3_share, Cond.static yX3_share, Cond.code yX3_share cX3_share 2 (some .int)]
def wsL_law_r15 : List Cond := [Cond.static yX4_composedColour, Cond.code yX4_composedColour cX4_composedColour 6 (some .int), Cond.methodLink RX4 108 yX4_sameColours, Cond.static yX4_sameColours, Cond.code yX4_sameColours cX4_sameColours 4 (some .int), Cond.methodLink RL 47 yX5_keep, Cond.instanceMethod yX5_keep, Cond.selects RX5 yX5_keep yX5_keep, Cond.code yX5_keep cX5_keep 3 (some .int), Cond.methodLink RX5 146 yX5_works, Cond.instanceMethod yX5_works, Cond.selects RX5 yX5_works yX5_works, Cond.code yX5_works cX5_works 3 none, Cond.methodLink RX5 83 yX5_mainPart, Cond.instanceMethod yX5_mainPart, Cond.selects RX5 yX5_mainPart yX5_mainPart, Cond.code yX5_mainPart cX5_mainPart 3 (some .int), Cond.methodLink RX5 53 yX5_partOf, Cond.static yX5_partOf, Cond.code yX5_partOf cX5_partOf 2 (some .int), Cond.methodLink RX5 87 yX5_distanceOf, Cond.static yX5_distanceOf, Cond.code yX5_distanceOf cX5_distanceOf 2 (some .int), Cond.methodLink RX5 57 yX5_off]
def wsL_law_r16 : List Cond := [Cond.static yX5_off, Cond.code yX5_off cX5_off 1 (some .int), Cond.methodLink RX5 90 yX5_rawOf, Cond.instanceMethod yX5_rawOf, Cond.selects RX5 yX5_rawOf yX5_rawOf, Cond.code yX5_rawOf cX5_rawOf 2 (some .int), Cond.methodLink RX5 93 yX5_opens, Cond.instanceMethod yX5_opens, Cond.selects RX5 yX5_opens yX5_opens, Cond.code yX5_opens cX5_opens 5 none, Cond.methodLink RX5 72 yX5_isEdge, Cond.static yX5_isEdge, Cond.code yX5_isEdge cX5_isEdge 1 (some .boolean), Cond.methodLink RX5 76 yX5_beside, Cond.static yX5_beside, Cond.code yX5_beside cX5_beside 4 (some .int), Cond.constantLong RX5 64 (7), Cond.methodLink RX5 96 yX5_kindOf, Cond.instanceMethod yX5_kindOf, Cond.selects RX5 yX5_kindOf yX5_kindOf, Cond.code yX5_kindOf cX5_kindOf 2 (some .int), Cond.methodLink RX5 79 yX5_isBeside, Cond.instanceMethod yX5_isBeside, Cond.selects RX5 yX5_isBeside yX5_isBeside]
def wsL_law_r17 : List Cond := [Cond.code yX5_isBeside cX5_isBeside 6 (some .boolean), Cond.methodLink RX5 99 yX5_spillOf, Cond.static yX5_spillOf, Cond.code yX5_spillOf cX5_spillOf 3 (some .int), Cond.methodLink RX5 61 yX5_greater, Cond.static yX5_greater, Cond.code yX5_greater cX5_greater 2 (some .int), Cond.methodLink RX5 102 yX5_shareOf, Cond.instanceMethod yX5_shareOf, Cond.selects RX5 yX5_shareOf yX5_shareOf, Cond.code yX5_shareOf cX5_shareOf 2 (some .int), Cond.methodLink RX5 105 yX5_without, Cond.static yX5_without, Cond.code yX5_without cX5_without 3 (some .int), Cond.methodLink RX5 109 yX5_composes, Cond.instanceMethod yX5_composes, Cond.selects RX5 yX5_composes yX5_composes, Cond.code yX5_composes cX5_composes 6 (some .int), Cond.methodLink RL 48 yX4_pixel, Cond.instanceMethod yX4_pixel, Cond.selects RX4 yX4_pixel yX4_pixel, Cond.code yX4_pixel cX4_pixel 3 (some .int), Cond.fieldLink RX4 112 "GlassSpill$Scene" "back" "[I", Cond.fieldLink RX4 119 "GlassSpill$View" "raw" "[I"]
def wsL_law_r18 : List Cond := [Cond.fieldLink RX4 122 "GlassSpill$View" "opaque" "[I", Cond.fieldLink RX4 125 "GlassSpill$View" "kinds" "[I", Cond.fieldLink RX4 128 "GlassSpill$View" "spill" "[I", Cond.fieldLink RX4 131 "GlassSpill$View" "taken" "[I", Cond.fieldLink RX4 134 "GlassSpill$View" "cleaned" "[I", Cond.methodLink RX4 115 yX2_distanceOf, Cond.methodLink RL 51 yX5_pixel, Cond.instanceMethod yX5_pixel, Cond.selects RX5 yX5_pixel yX5_pixel, Cond.code yX5_pixel cX5_pixel 4 (some .int), Cond.methodLink RL 52 yX4_count, Cond.instanceMethod yX4_count, Cond.selects RX4 yX4_count yX4_count, Cond.code yX4_count cX4_count 2 (some .int), Cond.fieldLink RX4 150 "GlassSpill$History" "size" "I", Cond.methodLink RX4 140 yX3_ofKind, Cond.instanceMethod yX3_ofKind, Cond.selects RX3 yX3_ofKind yX3_ofKind, Cond.code yX3_ofKind cX3_ofKind 4 (some .int), Cond.methodLink RX4 143 yX4_sum, Cond.static yX4_sum, Cond.code yX4_sum cX4_sum 6 (some .int), Cond.methodLink RX4 147 yX3_closed, Cond.instanceMethod yX3_closed]
def wsL_law_r19 : List Cond := [Cond.selects RX3 yX3_closed yX3_closed, Cond.code yX3_closed cX3_closed 3 (some .int), Cond.methodLink RL 55 yX5_count, Cond.instanceMethod yX5_count, Cond.selects RX5 yX5_count yX5_count, Cond.code yX5_count cX5_count 2 (some .int), Cond.constantLong RX5 149 (6), Cond.constantLong RX5 151 (11), Cond.constantLong RX5 156 (12), Cond.constantLong RX5 158 (17), Cond.methodLink RX5 153 yX5_ofKind, Cond.instanceMethod yX5_ofKind, Cond.selects RX5 yX5_ofKind yX5_ofKind, Cond.code yX5_ofKind cX5_ofKind 4 (some .int), Cond.methodLink RX5 160 yX5_over, Cond.instanceMethod yX5_over, Cond.selects RX5 yX5_over yX5_over, Cond.code yX5_over cX5_over 6 (some .int), Cond.methodLink RL 56 yX4_row, Cond.instanceMethod yX4_row, Cond.selects RX4 yX4_row yX4_row, Cond.code yX4_row cX4_row 5 (some .int), Cond.methodLink RL 59 yX5_row, Cond.instanceMethod yX5_row]
def wsL_law_r20 : List Cond := [Cond.selects RX5 yX5_row yX5_row, Cond.code yX5_row cX5_row 5 (some .int), Cond.constantLong RX5 166 (4), Cond.methodLink RL 60 yX4_bestScreen, Cond.instanceMethod yX4_bestScreen, Cond.selects RX4 yX4_bestScreen yX4_bestScreen, Cond.code yX4_bestScreen cX4_bestScreen 6 (some .int), Cond.methodLink RX4 153 yX2_copyFrom, Cond.methodLink RX4 156 yX3_clearPixels, Cond.instanceMethod yX3_clearPixels, Cond.selects RX3 yX3_clearPixels yX3_clearPixels, Cond.code yX3_clearPixels cX3_clearPixels 4 (some .int), Cond.methodLink RL 63 yX5_bestScreen, Cond.instanceMethod yX5_bestScreen, Cond.selects RX5 yX5_bestScreen yX5_bestScreen, Cond.code yX5_bestScreen cX5_bestScreen 7 (some .int), Cond.methodLink RL 64 yX4_leastNear, Cond.instanceMethod yX4_leastNear, Cond.selects RX4 yX4_leastNear yX4_leastNear, Cond.code yX4_leastNear cX4_leastNear 3 (some .int), Cond.methodLink RL 67 yX5_leastNear, Cond.instanceMethod yX5_leastNear, Cond.selects RX5 yX5_leastNear yX5_leastNear, Cond.code yX5_leastNear cX5_leastNear 3 (some .int)]
def wsL_law_r21 : List Cond := [Cond.methodLink RL 68 yX4_ifSet, Cond.instanceMethod yX4_ifSet, Cond.selects RX4 yX4_ifSet yX4_ifSet, Cond.code yX4_ifSet cX4_ifSet 4 (some .int), Cond.methodLink RL 71 yX5_ifSet, Cond.instanceMethod yX5_ifSet, Cond.selects RX5 yX5_ifSet yX5_ifSet, Cond.code yX5_ifSet cX5_ifSet 6 (some .int), Cond.methodLink RL 72 yX4_bestShare, Cond.instanceMethod yX4_bestShare, Cond.selects RX4 yX4_bestShare yX4_bestShare, Cond.code yX4_bestShare cX4_bestShare 8 (some .int), Cond.methodLink RX4 160 yX3_spillLeft, Cond.instanceMethod yX3_spillLeft, Cond.selects RX3 yX3_spillLeft yX3_spillLeft, Cond.code yX3_spillLeft cX3_spillLeft 5 (some .int), Cond.methodLink RL 75 yX5_bestShare, Cond.instanceMethod yX5_bestShare, Cond.selects RX5 yX5_bestShare yX5_bestShare, Cond.code yX5_bestShare cX5_bestShare 9 (some .int), Cond.constantLong RX5 168 (2), Cond.methodLink RX5 170 yX5_spillLeft, Cond.instanceMethod yX5_spillLeft, Cond.selects RX5 yX5_spillLeft yX5_spillLeft]
def wsL_law_r22 : List Cond := [Cond.code yX5_spillLeft cX5_spillLeft 4 (some .int), Cond.methodLink RL 78 yX4_put, Cond.instanceMethod yX4_put, Cond.selects RX4 yX4_put yX4_put, Cond.code yX4_put cX4_put 4 (some .int), Cond.methodLink RX4 163 yX4_charactersIn, Cond.static yX4_charactersIn, Cond.code yX4_charactersIn cX4_charactersIn 7 (some .int), Cond.constantLong RX4 183 (255), Cond.methodLink RX4 167 yX1_append, Cond.instanceMethod yX1_append, Cond.selects RX1 yX1_append yX1_append, Cond.code yX1_append cX1_append 5 none, Cond.constantLong RX1 19 (255), Cond.methodLink RL 82 yX5_put, Cond.instanceMethod yX5_put, Cond.selects RX5 yX5_put yX5_put, Cond.code yX5_put cX5_put 5 (some .int), Cond.constantLong RX5 173 (255), Cond.methodLink RX5 179 yX5_charactersOf, Cond.static yX5_charactersOf, Cond.code yX5_charactersOf cX5_charactersOf 5 (some .int), Cond.constantLong RX5 175 (33), Cond.constantLong RX5 177 (126)]
def wsL_law_r23 : List Cond := [Cond.methodLink RL 83 yX4_wipe, Cond.instanceMethod yX4_wipe, Cond.selects RX4 yX4_wipe yX4_wipe, Cond.code yX4_wipe cX4_wipe 2 (some .int), Cond.methodLink RL 86 yX5_wipe, Cond.instanceMethod yX5_wipe, Cond.selects RX5 yX5_wipe yX5_wipe, Cond.code yX5_wipe cX5_wipe 2 (some .int), Cond.methodLink RL 87 yX4_fault, Cond.instanceMethod yX4_fault, Cond.selects RX4 yX4_fault yX4_fault, Cond.code yX4_fault cX4_fault 1 (some .int), Cond.methodLink RL 90 yX5_fault, Cond.methodLink RL 91 yX4_undo, Cond.instanceMethod yX4_undo, Cond.selects RX4 yX4_undo yX4_undo, Cond.code yX4_undo cX4_undo 1 (some .int), Cond.methodLink RX4 171 yX0_takeBack, Cond.instanceMethod yX0_takeBack, Cond.selects RX0 yX0_takeBack yX0_takeBack, Cond.code yX0_takeBack cX0_takeBack 3 none, Cond.methodLink RL 94 yX5_undo, Cond.instanceMethod yX5_undo, Cond.selects RX5 yX5_undo yX5_undo]
def wsL_law_r24 : List Cond := [Cond.code yX5_undo cX5_undo 2 (some .int), Cond.methodLink RL 95 yX4_save, Cond.instanceMethod yX4_save, Cond.selects RX4 yX4_save yX4_save, Cond.code yX4_save cX4_save 3 (some .int), Cond.methodLink RX4 174 yX4_isSlot, Cond.static yX4_isSlot, Cond.code yX4_isSlot cX4_isSlot 1 (some .boolean), Cond.methodLink RL 98 yX5_save, Cond.instanceMethod yX5_save, Cond.selects RX5 yX5_save yX5_save, Cond.code yX5_save cX5_save 3 (some .int), Cond.methodLink RX5 207 yX5_isSlot, Cond.static yX5_isSlot, Cond.code yX5_isSlot cX5_isSlot 1 (some .boolean), Cond.methodLink RL 99 yX4_restore, Cond.instanceMethod yX4_restore, Cond.selects RX4 yX4_restore yX4_restore, Cond.code yX4_restore cX4_restore 3 (some .int), Cond.methodLink RL 102 yX5_restore, Cond.instanceMethod yX5_restore, Cond.selects RX5 yX5_restore yX5_restore, Cond.code yX5_restore cX5_restore 3 (some .int)]
def wsL_law : List Cond := (wsL_law_r1 ++ (wsL_law_r2 ++ (wsL_law_r3 ++ (wsL_law_r4 ++ (wsL_law_r5 ++ (wsL_law_r6 ++ (wsL_law_r7 ++ (wsL_law_r8 ++ (wsL_law_r9 ++ (wsL_law_r10 ++ (wsL_law_r11 ++ (wsL_law_r12 ++ (wsL_law_r13 ++ (wsL_law_r14 ++ (wsL_law_r15 ++ (wsL_law_r16 ++ (wsL_law_r17 ++ (wsL_law_r18 ++ (wsL_law_r19 ++ (wsL_law_r20 ++ (wsL_law_r21 ++ (wsL_law_r22 ++ (wsL_law_r23 ++ wsL_law_r24))))))))))))))))))))))) ++ wsX40 ++ wsX50 ++ wsX20 ++ wsX30 ++ wsX10 ++ wsX00 ++ ([] : List Cond)
theorem lw_memBy (ws : List Cond) (ps : List Nat) (hp : ws = ps.filterMap (fun i => lw_tbl[i]?)) : ∀ w ∈ ws, w ∈ lw_tbl := by
  intro w hw
  rw [hp] at hw
  obtain ⟨i, -, hi⟩ := List.mem_filterMap.mp hw
  exact List.mem_of_getElem? hi
set_option maxRecDepth 20000 in
theorem wsL_law_r1_in : ∀ w ∈ wsL_law_r1, w ∈ lw_tbl := lw_memBy _ [34, 35, 26, 440, 441, 32, 710, 36, 37, 38, 39, 40, 41, 42, 43, 27, 159, 160, 81, 82, 29, 161, 162, 125] (by decide +kernel)
set_option maxRecDepth 20000 in
theorem wsL_law_r2_in : ∀ w ∈ wsL_law_r2, w ∈ lw_tbl := lw_memBy _ [126, 30, 163, 139, 140, 31, 164, 165, 44, 45, 46, 47, 79, 53, 56, 59, 80, 62, 65, 50, 52, 51, 28, 84] (by decide +kernel)
set_option maxRecDepth 20000 in
theorem wsL_law_r3_in : ∀ w ∈ wsL_law_r3, w ∈ lw_tbl := lw_memBy _ [85, 86, 87, 89, 91, 93, 95, 97, 99, 101, 102, 103, 128, 129, 130, 131, 132, 141, 142, 143, 144, 145, 148, 149] (by decide +kernel)
set_option maxRecDepth 20000 in
theorem wsL_law_r4_in : ∀ w ∈ wsL_law_r4, w ∈ lw_tbl := lw_memBy _ [150, 147, 442, 443, 444, 445, 446, 447, 449, 450, 451, 452, 453, 454, 455, 456, 457, 458, 461, 181, 182, 183, 184, 185] (by decide +kernel)
set_option maxRecDepth 20000 in
theorem wsL_law_r5_in : ∀ w ∈ wsL_law_r5, w ∈ lw_tbl := lw_memBy _ [187, 0, 188, 192, 55, 189, 190, 191, 194, 195, 196, 197, 198, 199, 33, 200, 201, 202, 203, 204, 205, 206, 207, 208] (by decide +kernel)
set_option maxRecDepth 20000 in
theorem wsL_law_r6_in : ∀ w ∈ wsL_law_r6, w ∈ lw_tbl := lw_memBy _ [498, 499, 500, 501, 502, 503, 504, 505, 509, 506, 507, 508, 510, 512, 9, 513, 514, 516, 10, 517, 448, 210, 211, 212] (by decide +kernel)
set_option maxRecDepth 20000 in
theorem wsL_law_r7_in : ∀ w ∈ wsL_law_r7, w ∈ lw_tbl := lw_memBy _ [213, 66, 214, 215, 216, 518, 519, 520, 521, 522, 523, 524, 525, 217, 218, 219, 220, 221, 222, 223, 224, 225, 226, 227] (by decide +kernel)
set_option maxRecDepth 20000 in
theorem wsL_law_r8_in : ∀ w ∈ wsL_law_r8, w ∈ lw_tbl := lw_memBy _ [526, 527, 528, 529, 530, 531, 532, 533, 534, 535, 536, 228, 229, 230, 231, 232, 233, 234, 235, 236, 33, 237, 238, 239] (by decide +kernel)
set_option maxRecDepth 20000 in
theorem wsL_law_r9_in : ∀ w ∈ wsL_law_r9, w ∈ lw_tbl := lw_memBy _ [240, 537, 538, 539, 540, 541, 542, 543, 241, 242, 243, 244, 133, 245, 246, 247, 248, 249, 250, 251, 252, 253, 254, 255] (by decide +kernel)
set_option maxRecDepth 20000 in
theorem wsL_law_r10_in : ∀ w ∈ wsL_law_r10, w ∈ lw_tbl := lw_memBy _ [256, 257, 258, 690, 691, 692, 693, 588, 462, 459, 694, 675, 676, 677, 460, 678, 680, 23, 681, 682, 684, 24, 685, 686] (by decide +kernel)
set_option maxRecDepth 20000 in
theorem wsL_law_r11_in : ∀ w ∈ wsL_law_r11, w ∈ lw_tbl := lw_memBy _ [687, 688, 689, 260, 261, 262, 263, 64, 264, 265, 266, 267, 544, 545, 546, 547, 548, 550, 11, 551, 268, 269, 270, 271] (by decide +kernel)
set_option maxRecDepth 20000 in
theorem wsL_law_r12_in : ∀ w ∈ wsL_law_r12, w ∈ lw_tbl := lw_memBy _ [100, 57, 272, 273, 274, 275, 276, 278, 1, 279, 54, 280, 281, 282, 283, 286, 287, 294, 295, 296, 288, 289, 290, 291] (by decide +kernel)
set_option maxRecDepth 20000 in
theorem wsL_law_r13_in : ∀ w ∈ wsL_law_r13, w ∈ lw_tbl := lw_memBy _ [292, 293, 297, 298, 299, 300, 302, 2, 303, 304, 306, 3, 307, 309, 310, 311, 313, 4, 314, 317, 318, 319, 321, 5] (by decide +kernel)
set_option maxRecDepth 20000 in
theorem wsL_law_r14_in : ∀ w ∈ wsL_law_r14, w ∈ lw_tbl := lw_memBy _ [322, 63, 323, 325, 6, 326, 327, 329, 7, 330, 331, 333, 8, 334, 67, 58, 61, 336, 337, 339, 340, 341, 342, 343] (by decide +kernel)
set_option maxRecDepth 20000 in
theorem wsL_law_r15_in : ∀ w ∈ wsL_law_r15, w ∈ lw_tbl := lw_memBy _ [346, 347, 348, 349, 350, 552, 553, 554, 555, 556, 558, 12, 559, 560, 562, 13, 563, 564, 565, 566, 567, 568, 569, 570] (by decide +kernel)
set_option maxRecDepth 20000 in
theorem wsL_law_r16_in : ∀ w ∈ wsL_law_r16, w ∈ lw_tbl := lw_memBy _ [571, 572, 573, 575, 14, 576, 577, 579, 15, 580, 581, 582, 583, 584, 585, 586, 587, 589, 591, 16, 592, 593, 595, 17] (by decide +kernel)
set_option maxRecDepth 20000 in
theorem wsL_law_r17_in : ∀ w ∈ wsL_law_r17, w ∈ lw_tbl := lw_memBy _ [596, 597, 598, 599, 600, 601, 602, 603, 605, 18, 606, 607, 608, 609, 610, 612, 19, 613, 351, 352, 353, 354, 60, 88] (by decide +kernel)
set_option maxRecDepth 20000 in
theorem wsL_law_r18_in : ∀ w ∈ wsL_law_r18, w ∈ lw_tbl := lw_memBy _ [90, 92, 94, 96, 98, 355, 614, 615, 616, 617, 356, 357, 358, 359, 151, 360, 361, 362, 363, 364, 365, 366, 367, 368] (by decide +kernel)
set_option maxRecDepth 20000 in
theorem wsL_law_r19_in : ∀ w ∈ wsL_law_r19, w ∈ lw_tbl := lw_memBy _ [369, 370, 618, 619, 620, 621, 622, 623, 628, 629, 624, 626, 20, 627, 630, 632, 21, 633, 371, 372, 373, 374, 634, 635] (by decide +kernel)
set_option maxRecDepth 20000 in
theorem wsL_law_r20_in : ∀ w ∈ wsL_law_r20, w ∈ lw_tbl := lw_memBy _ [636, 637, 638, 375, 376, 377, 378, 379, 380, 381, 382, 383, 639, 640, 641, 642, 384, 385, 386, 387, 643, 644, 645, 646] (by decide +kernel)
set_option maxRecDepth 20000 in
theorem wsL_law_r21_in : ∀ w ∈ wsL_law_r21, w ∈ lw_tbl := lw_memBy _ [388, 389, 390, 391, 647, 648, 649, 650, 392, 393, 394, 395, 396, 397, 398, 399, 651, 652, 653, 654, 655, 656, 658, 22] (by decide +kernel)
set_option maxRecDepth 20000 in
theorem wsL_law_r22_in : ∀ w ∈ wsL_law_r22, w ∈ lw_tbl := lw_memBy _ [659, 400, 401, 402, 403, 404, 405, 406, 407, 408, 409, 410, 411, 412, 660, 661, 662, 663, 667, 664, 665, 666, 668, 669] (by decide +kernel)
set_option maxRecDepth 20000 in
theorem wsL_law_r23_in : ∀ w ∈ wsL_law_r23, w ∈ lw_tbl := lw_memBy _ [413, 414, 415, 416, 670, 671, 672, 673, 417, 418, 419, 420, 674, 421, 422, 423, 424, 425, 426, 427, 428, 695, 696, 697] (by decide +kernel)
set_option maxRecDepth 20000 in
theorem wsL_law_r24_in : ∀ w ∈ wsL_law_r24, w ∈ lw_tbl := lw_memBy _ [698, 429, 430, 431, 432, 433, 434, 435, 699, 700, 701, 702, 703, 704, 705, 436, 437, 438, 439, 706, 707, 708, 709] (by decide +kernel)
set_option maxRecDepth 20000 in
theorem wsX00_in : ∀ w ∈ wsX00, w ∈ lw_tbl := lw_memBy _ [152, 154, 156] (by decide +kernel)
set_option maxRecDepth 20000 in
theorem wsX10_in : ∀ w ∈ wsX10, w ∈ lw_tbl := lw_memBy _ [134, 136] (by decide +kernel)
set_option maxRecDepth 20000 in
theorem wsX20_in : ∀ w ∈ wsX20, w ∈ lw_tbl := lw_memBy _ [68, 70, 72, 74, 76] (by decide +kernel)
set_option maxRecDepth 20000 in
theorem wsX30_in : ∀ w ∈ wsX30, w ∈ lw_tbl := lw_memBy _ [104, 106, 108, 110, 112, 114, 116, 118, 120, 122] (by decide +kernel)
set_option maxRecDepth 20000 in
theorem wsX40_in : ∀ w ∈ wsX40, w ∈ lw_tbl := lw_memBy _ [166, 168, 170, 172, 174, 176, 178] (by decide +kernel)
set_option maxRecDepth 20000 in
theorem wsX50_in : ∀ w ∈ wsX50, w ∈ lw_tbl := lw_memBy _ [463, 465, 467, 469, 471, 473, 475, 477, 479, 481, 483, 485, 487, 489, 491, 493, 495] (by decide +kernel)
theorem wsL_law_in : ∀ w ∈ wsL_law, w ∈ lw_tbl := List.forall_mem_append.mpr ⟨List.forall_mem_append.mpr ⟨List.forall_mem_append.mpr ⟨List.forall_mem_append.mpr ⟨List.forall_mem_append.mpr ⟨List.forall_mem_append.mpr ⟨List.forall_mem_append.mpr ⟨List.forall_mem_append.mpr ⟨wsL_law_r1_in, List.forall_mem_append.mpr ⟨wsL_law_r2_in, List.forall_mem_append.mpr ⟨wsL_law_r3_in, List.forall_mem_append.mpr ⟨wsL_law_r4_in, List.forall_mem_append.mpr ⟨wsL_law_r5_in, List.forall_mem_append.mpr ⟨wsL_law_r6_in, List.forall_mem_append.mpr ⟨wsL_law_r7_in, List.forall_mem_append.mpr ⟨wsL_law_r8_in, List.forall_mem_append.mpr ⟨wsL_law_r9_in, List.forall_mem_append.mpr ⟨wsL_law_r10_in, List.forall_mem_append.mpr ⟨wsL_law_r11_in, List.forall_mem_append.mpr ⟨wsL_law_r12_in, List.forall_mem_append.mpr ⟨wsL_law_r13_in, List.forall_mem_append.mpr ⟨wsL_law_r14_in, List.forall_mem_append.mpr ⟨wsL_law_r15_in, List.forall_mem_append.mpr ⟨wsL_law_r16_in, List.forall_mem_append.mpr ⟨wsL_law_r17_in, List.forall_mem_append.mpr ⟨wsL_law_r18_in, List.forall_mem_append.mpr ⟨wsL_law_r19_in, List.forall_mem_append.mpr ⟨wsL_law_r20_in, List.forall_mem_append.mpr ⟨wsL_law_r21_in, List.forall_mem_append.mpr ⟨wsL_law_r22_in, List.forall_mem_append.mpr ⟨wsL_law_r23_in, wsL_law_r24_in⟩⟩⟩⟩⟩⟩⟩⟩⟩⟩⟩⟩⟩⟩⟩⟩⟩⟩⟩⟩⟩⟩⟩, wsX40_in⟩, wsX50_in⟩, wsX20_in⟩, wsX30_in⟩, wsX10_in⟩, wsX00_in⟩, fun _ h => absurd h List.not_mem_nil⟩
theorem inlX0 : ∀ w ∈ wsX00, w ∈ wsL_law := fun _ h => List.mem_append_left _ (List.mem_append_right _ h)
theorem inX0 : ∀ w ∈ wsX00, w ∈ lw_tbl := fun w h => wsL_law_in w (inlX0 w h)
theorem inlX1 : ∀ w ∈ wsX10, w ∈ wsL_law := fun _ h => List.mem_append_left _ (List.mem_append_left _ (List.mem_append_right _ h))
theorem inX1 : ∀ w ∈ wsX10, w ∈ lw_tbl := fun w h => wsL_law_in w (inlX1 w h)
theorem inlX2 : ∀ w ∈ wsX20, w ∈ wsL_law := fun _ h => List.mem_append_left _ (List.mem_append_left _ (List.mem_append_left _ (List.mem_append_left _ (List.mem_append_right _ h))))
theorem inX2 : ∀ w ∈ wsX20, w ∈ lw_tbl := fun w h => wsL_law_in w (inlX2 w h)
theorem inlX3 : ∀ w ∈ wsX30, w ∈ wsL_law := fun _ h => List.mem_append_left _ (List.mem_append_left _ (List.mem_append_left _ (List.mem_append_right _ h)))
theorem inX3 : ∀ w ∈ wsX30, w ∈ lw_tbl := fun w h => wsL_law_in w (inlX3 w h)
theorem inlX4 : ∀ w ∈ wsX40, w ∈ wsL_law := fun _ h => List.mem_append_left _ (List.mem_append_left _ (List.mem_append_left _ (List.mem_append_left _ (List.mem_append_left _ (List.mem_append_left _ (List.mem_append_right _ h))))))
theorem inX4 : ∀ w ∈ wsX40, w ∈ lw_tbl := fun w h => wsL_law_in w (inlX4 w h)
theorem inlX5 : ∀ w ∈ wsX50, w ∈ wsL_law := fun _ h => List.mem_append_left _ (List.mem_append_left _ (List.mem_append_left _ (List.mem_append_left _ (List.mem_append_left _ (List.mem_append_right _ h)))))
theorem inX5 : ∀ w ∈ wsX50, w ∈ lw_tbl := fun w h => wsL_law_in w (inlX5 w h)
theorem inJ9 : ∀ w ∈ wsJ90, w ∈ lw_tbl := by decide +kernel
theorem inJ10 : ∀ w ∈ wsJ100, w ∈ lw_tbl := by decide +kernel
set_option maxRecDepth 20000 in
theorem ggX0_init_X2_init : GoodIn wsX0_init wsX2_init := goodIn_r _ [12, 13, 2, 3, 14, 15, 16, 17, 18, 19, 20, 21, 22, 23, 24, 28, 29, 30, 31, 32] (by decide +kernel) (by decide +kernel)
set_option maxRecDepth 20000 in
theorem gX0_init_X2_init : GoodIn wsX0_init (wsX2_init) := ggX0_init_X2_init
theorem dX0_init_0 : decode cX0_init 0 = .ok (.aload_n 0, 1) := by decide +kernel
theorem dX0_init_1 : decode cX0_init 1 = .ok (.invokespecial 3, 3) := by decide +kernel
theorem dX0_init_4 : decode cX0_init 4 = .ok (.aload_n 0, 1) := by decide +kernel
theorem dX0_init_5 : decode cX0_init 5 = .ok (.bipush 6, 2) := by decide +kernel
theorem dX0_init_7 : decode cX0_init 7 = .ok (.anewarray 9, 3) := by decide +kernel
theorem dX0_init_10 : decode cX0_init 10 = .ok (.putfield 11, 3) := by decide +kernel
theorem dX0_init_13 : decode cX0_init 13 = .ok (.aload_n 0, 1) := by decide +kernel
theorem dX0_init_14 : decode cX0_init 14 = .ok (.iconst 0, 1) := by decide +kernel
theorem dX0_init_15 : decode cX0_init 15 = .ok (.putfield 17, 3) := by decide +kernel
theorem dX0_init_18 : decode cX0_init 18 = .ok (.aload_n 0, 1) := by decide +kernel
theorem dX0_init_19 : decode cX0_init 19 = .ok (.iconst 0, 1) := by decide +kernel
theorem dX0_init_20 : decode cX0_init 20 = .ok (.putfield 21, 3) := by decide +kernel
theorem dX0_init_23 : decode cX0_init 23 = .ok (.iconst 0, 1) := by decide +kernel
theorem dX0_init_24 : decode cX0_init 24 = .ok (.istore_n 1, 1) := by decide +kernel
theorem dX0_init_25 : decode cX0_init 25 = .ok (.iload_n 1, 1) := by decide +kernel
theorem dX0_init_26 : decode cX0_init 26 = .ok (.bipush 6, 2) := by decide +kernel
theorem dX0_init_28 : decode cX0_init 28 = .ok (.if_icmp .ge 22, 3) := by decide +kernel
theorem dX0_init_31 : decode cX0_init 31 = .ok (.aload_n 0, 1) := by decide +kernel
theorem dX0_init_32 : decode cX0_init 32 = .ok (.getfield 11, 3) := by decide +kernel
theorem dX0_init_35 : decode cX0_init 35 = .ok (.iload_n 1, 1) := by decide +kernel
theorem dX0_init_36 : decode cX0_init 36 = .ok (.new 9, 3) := by decide +kernel
theorem dX0_init_39 : decode cX0_init 39 = .ok (.dup, 1) := by decide +kernel
theorem dX0_init_40 : decode cX0_init 40 = .ok (.invokespecial 24, 3) := by decide +kernel
theorem dX0_init_43 : decode cX0_init 43 = .ok (.aastore, 1) := by decide +kernel
theorem dX0_init_44 : decode cX0_init 44 = .ok (.iinc 1 1, 3) := by decide +kernel
theorem dX0_init_47 : decode cX0_init 47 = .ok (.goto (-22), 3) := by decide +kernel
theorem dX0_init_50 : decode cX0_init 50 = .ok (.return_, 1) := by decide +kernel
set_option maxRecDepth 20000 in
theorem ggX0_remember_J9_floorMod_7cf53 : GoodIn wsX0_remember wsJ9_floorMod_7cf53 := goodIn_r _ [7] (by decide +kernel) (by decide +kernel)
set_option maxRecDepth 20000 in
theorem gX0_remember_J9_floorMod_7cf53 : GoodIn wsX0_remember (va_wsS RX0 25 yJ9_floorMod_7cf53 wsJ9_floorMod_7cf53) := goodIn_app (goodIn_of _ (by decide +kernel)) ggX0_remember_J9_floorMod_7cf53
set_option maxRecDepth 20000 in
theorem ggX0_remember_X2_copyFrom : GoodIn wsX0_remember wsX2_copyFrom := goodIn_r _ [12, 13, 14, 15, 16, 17, 18, 19, 20, 21, 25, 26, 27, 28, 29] (by decide +kernel) (by decide +kernel)
set_option maxRecDepth 20000 in
theorem gX0_remember_X2_copyFrom : GoodIn wsX0_remember (wsV RX0 31 RX2 yX2_copyFrom wsX2_copyFrom) := goodIn_app (goodIn_of _ (by decide +kernel)) ggX0_remember_X2_copyFrom
theorem dX0_remember_0 : decode cX0_remember 0 = .ok (.aload_n 0, 1) := by decide +kernel
theorem dX0_remember_1 : decode cX0_remember 1 = .ok (.getfield 11, 3) := by decide +kernel
theorem dX0_remember_4 : decode cX0_remember 4 = .ok (.aload_n 0, 1) := by decide +kernel
theorem dX0_remember_5 : decode cX0_remember 5 = .ok (.getfield 17, 3) := by decide +kernel
theorem dX0_remember_8 : decode cX0_remember 8 = .ok (.aload_n 0, 1) := by decide +kernel
theorem dX0_remember_9 : decode cX0_remember 9 = .ok (.getfield 21, 3) := by decide +kernel
theorem dX0_remember_12 : decode cX0_remember 12 = .ok (.iadd, 1) := by decide +kernel
theorem dX0_remember_13 : decode cX0_remember 13 = .ok (.bipush 6, 2) := by decide +kernel
theorem dX0_remember_15 : decode cX0_remember 15 = .ok (.invokestatic 25, 3) := by decide +kernel
theorem dX0_remember_18 : decode cX0_remember 18 = .ok (.aaload, 1) := by decide +kernel
theorem dX0_remember_19 : decode cX0_remember 19 = .ok (.astore_n 2, 1) := by decide +kernel
theorem dX0_remember_20 : decode cX0_remember 20 = .ok (.aload_n 2, 1) := by decide +kernel
theorem dX0_remember_21 : decode cX0_remember 21 = .ok (.ifnonnull 4, 3) := by decide +kernel
theorem dX0_remember_24 : decode cX0_remember 24 = .ok (.return_, 1) := by decide +kernel
theorem dX0_remember_25 : decode cX0_remember 25 = .ok (.aload_n 2, 1) := by decide +kernel
theorem dX0_remember_26 : decode cX0_remember 26 = .ok (.aload_n 1, 1) := by decide +kernel
theorem dX0_remember_27 : decode cX0_remember 27 = .ok (.invokevirtual 31, 3) := by decide +kernel
theorem dX0_remember_30 : decode cX0_remember 30 = .ok (.aload_n 0, 1) := by decide +kernel
theorem dX0_remember_31 : decode cX0_remember 31 = .ok (.getfield 21, 3) := by decide +kernel
theorem dX0_remember_34 : decode cX0_remember 34 = .ok (.bipush 6, 2) := by decide +kernel
theorem dX0_remember_36 : decode cX0_remember 36 = .ok (.if_icmp .ge 16, 3) := by decide +kernel
theorem dX0_remember_39 : decode cX0_remember 39 = .ok (.aload_n 0, 1) := by decide +kernel
theorem dX0_remember_40 : decode cX0_remember 40 = .ok (.dup, 1) := by decide +kernel
theorem dX0_remember_41 : decode cX0_remember 41 = .ok (.getfield 21, 3) := by decide +kernel
theorem dX0_remember_44 : decode cX0_remember 44 = .ok (.iconst 1, 1) := by decide +kernel
theorem dX0_remember_45 : decode cX0_remember 45 = .ok (.iadd, 1) := by decide +kernel
theorem dX0_remember_46 : decode cX0_remember 46 = .ok (.putfield 21, 3) := by decide +kernel
theorem dX0_remember_49 : decode cX0_remember 49 = .ok (.goto 18, 3) := by decide +kernel
theorem dX0_remember_52 : decode cX0_remember 52 = .ok (.aload_n 0, 1) := by decide +kernel
theorem dX0_remember_53 : decode cX0_remember 53 = .ok (.aload_n 0, 1) := by decide +kernel
theorem dX0_remember_54 : decode cX0_remember 54 = .ok (.getfield 17, 3) := by decide +kernel
theorem dX0_remember_57 : decode cX0_remember 57 = .ok (.iconst 1, 1) := by decide +kernel
theorem dX0_remember_58 : decode cX0_remember 58 = .ok (.iadd, 1) := by decide +kernel
theorem dX0_remember_59 : decode cX0_remember 59 = .ok (.bipush 6, 2) := by decide +kernel
theorem dX0_remember_61 : decode cX0_remember 61 = .ok (.invokestatic 25, 3) := by decide +kernel
theorem dX0_remember_64 : decode cX0_remember 64 = .ok (.putfield 17, 3) := by decide +kernel
theorem dX0_remember_67 : decode cX0_remember 67 = .ok (.return_, 1) := by decide +kernel
set_option maxRecDepth 20000 in
theorem ggX0_takeBack_J9_floorMod_7cf53 : GoodIn wsX0_takeBack wsJ9_floorMod_7cf53 := goodIn_r _ [7] (by decide +kernel) (by decide +kernel)
set_option maxRecDepth 20000 in
theorem gX0_takeBack_J9_floorMod_7cf53 : GoodIn wsX0_takeBack (va_wsS RX0 25 yJ9_floorMod_7cf53 wsJ9_floorMod_7cf53) := goodIn_app (goodIn_of _ (by decide +kernel)) ggX0_takeBack_J9_floorMod_7cf53
set_option maxRecDepth 20000 in
theorem ggX0_takeBack_X2_copyFrom : GoodIn wsX0_takeBack wsX2_copyFrom := goodIn_r _ [12, 13, 14, 15, 16, 17, 18, 19, 20, 21, 25, 26, 27, 28, 29] (by decide +kernel) (by decide +kernel)
set_option maxRecDepth 20000 in
theorem gX0_takeBack_X2_copyFrom : GoodIn wsX0_takeBack (wsV RX0 31 RX2 yX2_copyFrom wsX2_copyFrom) := goodIn_app (goodIn_of _ (by decide +kernel)) ggX0_takeBack_X2_copyFrom
theorem dX0_takeBack_0 : decode cX0_takeBack 0 = .ok (.aload_n 0, 1) := by decide +kernel
theorem dX0_takeBack_1 : decode cX0_takeBack 1 = .ok (.getfield 21, 3) := by decide +kernel
theorem dX0_takeBack_4 : decode cX0_takeBack 4 = .ok (.ifCond .ne 4, 3) := by decide +kernel
theorem dX0_takeBack_7 : decode cX0_takeBack 7 = .ok (.return_, 1) := by decide +kernel
theorem dX0_takeBack_8 : decode cX0_takeBack 8 = .ok (.aload_n 0, 1) := by decide +kernel
theorem dX0_takeBack_9 : decode cX0_takeBack 9 = .ok (.getfield 11, 3) := by decide +kernel
theorem dX0_takeBack_12 : decode cX0_takeBack 12 = .ok (.aload_n 0, 1) := by decide +kernel
theorem dX0_takeBack_13 : decode cX0_takeBack 13 = .ok (.getfield 17, 3) := by decide +kernel
theorem dX0_takeBack_16 : decode cX0_takeBack 16 = .ok (.aload_n 0, 1) := by decide +kernel
theorem dX0_takeBack_17 : decode cX0_takeBack 17 = .ok (.getfield 21, 3) := by decide +kernel
theorem dX0_takeBack_20 : decode cX0_takeBack 20 = .ok (.iadd, 1) := by decide +kernel
theorem dX0_takeBack_21 : decode cX0_takeBack 21 = .ok (.iconst 1, 1) := by decide +kernel
theorem dX0_takeBack_22 : decode cX0_takeBack 22 = .ok (.isub, 1) := by decide +kernel
theorem dX0_takeBack_23 : decode cX0_takeBack 23 = .ok (.bipush 6, 2) := by decide +kernel
theorem dX0_takeBack_25 : decode cX0_takeBack 25 = .ok (.invokestatic 25, 3) := by decide +kernel
theorem dX0_takeBack_28 : decode cX0_takeBack 28 = .ok (.aaload, 1) := by decide +kernel
theorem dX0_takeBack_29 : decode cX0_takeBack 29 = .ok (.astore_n 2, 1) := by decide +kernel
theorem dX0_takeBack_30 : decode cX0_takeBack 30 = .ok (.aload_n 2, 1) := by decide +kernel
theorem dX0_takeBack_31 : decode cX0_takeBack 31 = .ok (.ifnonnull 4, 3) := by decide +kernel
theorem dX0_takeBack_34 : decode cX0_takeBack 34 = .ok (.return_, 1) := by decide +kernel
theorem dX0_takeBack_35 : decode cX0_takeBack 35 = .ok (.aload_n 1, 1) := by decide +kernel
theorem dX0_takeBack_36 : decode cX0_takeBack 36 = .ok (.aload_n 2, 1) := by decide +kernel
theorem dX0_takeBack_37 : decode cX0_takeBack 37 = .ok (.invokevirtual 31, 3) := by decide +kernel
theorem dX0_takeBack_40 : decode cX0_takeBack 40 = .ok (.aload_n 0, 1) := by decide +kernel
theorem dX0_takeBack_41 : decode cX0_takeBack 41 = .ok (.dup, 1) := by decide +kernel
theorem dX0_takeBack_42 : decode cX0_takeBack 42 = .ok (.getfield 21, 3) := by decide +kernel
theorem dX0_takeBack_45 : decode cX0_takeBack 45 = .ok (.iconst 1, 1) := by decide +kernel
theorem dX0_takeBack_46 : decode cX0_takeBack 46 = .ok (.isub, 1) := by decide +kernel
theorem dX0_takeBack_47 : decode cX0_takeBack 47 = .ok (.putfield 21, 3) := by decide +kernel
theorem dX0_takeBack_50 : decode cX0_takeBack 50 = .ok (.return_, 1) := by decide +kernel
theorem dX1_init_0 : decode cX1_init 0 = .ok (.aload_n 0, 1) := by decide +kernel
theorem dX1_init_1 : decode cX1_init 1 = .ok (.invokespecial 3, 3) := by decide +kernel
theorem dX1_init_4 : decode cX1_init 4 = .ok (.aload_n 0, 1) := by decide +kernel
theorem dX1_init_5 : decode cX1_init 5 = .ok (.bipush 48, 2) := by decide +kernel
theorem dX1_init_7 : decode cX1_init 7 = .ok (.newarray .int, 2) := by decide +kernel
theorem dX1_init_9 : decode cX1_init 9 = .ok (.putfield 9, 3) := by decide +kernel
theorem dX1_init_12 : decode cX1_init 12 = .ok (.aload_n 0, 1) := by decide +kernel
theorem dX1_init_13 : decode cX1_init 13 = .ok (.iconst 0, 1) := by decide +kernel
theorem dX1_init_14 : decode cX1_init 14 = .ok (.putfield 15, 3) := by decide +kernel
theorem dX1_init_17 : decode cX1_init 17 = .ok (.return_, 1) := by decide +kernel
theorem dX1_append_0 : decode cX1_append 0 = .ok (.iload_n 3, 1) := by decide +kernel
theorem dX1_append_1 : decode cX1_append 1 = .ok (.iconst 1, 1) := by decide +kernel
theorem dX1_append_2 : decode cX1_append 2 = .ok (.isub, 1) := by decide +kernel
theorem dX1_append_3 : decode cX1_append 3 = .ok (.istore 4, 2) := by decide +kernel
theorem dX1_append_5 : decode cX1_append 5 = .ok (.iload 4, 2) := by decide +kernel
theorem dX1_append_7 : decode cX1_append 7 = .ok (.ifCond .lt 49, 3) := by decide +kernel
theorem dX1_append_10 : decode cX1_append 10 = .ok (.aload_n 0, 1) := by decide +kernel
theorem dX1_append_11 : decode cX1_append 11 = .ok (.getfield 15, 3) := by decide +kernel
theorem dX1_append_14 : decode cX1_append 14 = .ok (.bipush 48, 2) := by decide +kernel
theorem dX1_append_16 : decode cX1_append 16 = .ok (.if_icmp .ge 40, 3) := by decide +kernel
theorem dX1_append_19 : decode cX1_append 19 = .ok (.aload_n 0, 1) := by decide +kernel
theorem dX1_append_20 : decode cX1_append 20 = .ok (.getfield 9, 3) := by decide +kernel
theorem dX1_append_23 : decode cX1_append 23 = .ok (.aload_n 0, 1) := by decide +kernel
theorem dX1_append_24 : decode cX1_append 24 = .ok (.getfield 15, 3) := by decide +kernel
theorem dX1_append_27 : decode cX1_append 27 = .ok (.lload_n 1, 1) := by decide +kernel
theorem dX1_append_28 : decode cX1_append 28 = .ok (.bipush 8, 2) := by decide +kernel
theorem dX1_append_30 : decode cX1_append 30 = .ok (.iload 4, 2) := by decide +kernel
theorem dX1_append_32 : decode cX1_append 32 = .ok (.imul, 1) := by decide +kernel
theorem dX1_append_33 : decode cX1_append 33 = .ok (.lushr, 1) := by decide +kernel
theorem dX1_append_34 : decode cX1_append 34 = .ok (.ldc2_w 19, 3) := by decide +kernel
theorem dX1_append_37 : decode cX1_append 37 = .ok (.land, 1) := by decide +kernel
theorem dX1_append_38 : decode cX1_append 38 = .ok (.l2i, 1) := by decide +kernel
theorem dX1_append_39 : decode cX1_append 39 = .ok (.iastore, 1) := by decide +kernel
theorem dX1_append_40 : decode cX1_append 40 = .ok (.aload_n 0, 1) := by decide +kernel
theorem dX1_append_41 : decode cX1_append 41 = .ok (.dup, 1) := by decide +kernel
theorem dX1_append_42 : decode cX1_append 42 = .ok (.getfield 15, 3) := by decide +kernel
theorem dX1_append_45 : decode cX1_append 45 = .ok (.iconst 1, 1) := by decide +kernel
theorem dX1_append_46 : decode cX1_append 46 = .ok (.iadd, 1) := by decide +kernel
theorem dX1_append_47 : decode cX1_append 47 = .ok (.putfield 15, 3) := by decide +kernel
theorem dX1_append_50 : decode cX1_append 50 = .ok (.iinc 4 (-1), 3) := by decide +kernel
theorem dX1_append_53 : decode cX1_append 53 = .ok (.goto (-48), 3) := by decide +kernel
theorem dX1_append_56 : decode cX1_append 56 = .ok (.return_, 1) := by decide +kernel
set_option maxRecDepth 20000 in
theorem ggX1_firstFault_X1_partOf : GoodIn wsX1_firstFault wsX1_partOf := goodIn_r _ [6] (by decide +kernel) (by decide +kernel)
set_option maxRecDepth 20000 in
theorem gX1_firstFault_X1_partOf : GoodIn wsX1_firstFault (va_wsS RX1 21 yX1_partOf wsX1_partOf) := goodIn_app (goodIn_of _ (by decide +kernel)) ggX1_firstFault_X1_partOf
theorem dX1_firstFault_0 : decode cX1_firstFault 0 = .ok (.iconst 0, 1) := by decide +kernel
theorem dX1_firstFault_1 : decode cX1_firstFault 1 = .ok (.istore_n 1, 1) := by decide +kernel
theorem dX1_firstFault_2 : decode cX1_firstFault 2 = .ok (.iconst 0, 1) := by decide +kernel
theorem dX1_firstFault_3 : decode cX1_firstFault 3 = .ok (.istore_n 2, 1) := by decide +kernel
theorem dX1_firstFault_4 : decode cX1_firstFault 4 = .ok (.iconst 0, 1) := by decide +kernel
theorem dX1_firstFault_5 : decode cX1_firstFault 5 = .ok (.istore_n 3, 1) := by decide +kernel
theorem dX1_firstFault_6 : decode cX1_firstFault 6 = .ok (.iload_n 3, 1) := by decide +kernel
theorem dX1_firstFault_7 : decode cX1_firstFault 7 = .ok (.aload_n 0, 1) := by decide +kernel
theorem dX1_firstFault_8 : decode cX1_firstFault 8 = .ok (.getfield 15, 3) := by decide +kernel
theorem dX1_firstFault_11 : decode cX1_firstFault 11 = .ok (.if_icmp .ge 79, 3) := by decide +kernel
theorem dX1_firstFault_14 : decode cX1_firstFault 14 = .ok (.iload_n 3, 1) := by decide +kernel
theorem dX1_firstFault_15 : decode cX1_firstFault 15 = .ok (.bipush 48, 2) := by decide +kernel
theorem dX1_firstFault_17 : decode cX1_firstFault 17 = .ok (.if_icmp .ge 73, 3) := by decide +kernel
theorem dX1_firstFault_20 : decode cX1_firstFault 20 = .ok (.iload_n 1, 1) := by decide +kernel
theorem dX1_firstFault_21 : decode cX1_firstFault 21 = .ok (.bipush 8, 2) := by decide +kernel
theorem dX1_firstFault_23 : decode cX1_firstFault 23 = .ok (.if_icmp .ne 5, 3) := by decide +kernel
theorem dX1_firstFault_26 : decode cX1_firstFault 26 = .ok (.iload_n 3, 1) := by decide +kernel
theorem dX1_firstFault_27 : decode cX1_firstFault 27 = .ok (.ireturn, 1) := by decide +kernel
theorem dX1_firstFault_28 : decode cX1_firstFault 28 = .ok (.aload_n 0, 1) := by decide +kernel
theorem dX1_firstFault_29 : decode cX1_firstFault 29 = .ok (.getfield 9, 3) := by decide +kernel
theorem dX1_firstFault_32 : decode cX1_firstFault 32 = .ok (.iload_n 3, 1) := by decide +kernel
theorem dX1_firstFault_33 : decode cX1_firstFault 33 = .ok (.iaload, 1) := by decide +kernel
theorem dX1_firstFault_34 : decode cX1_firstFault 34 = .ok (.invokestatic 21, 3) := by decide +kernel
theorem dX1_firstFault_37 : decode cX1_firstFault 37 = .ok (.ifCond .lt 9, 3) := by decide +kernel
theorem dX1_firstFault_40 : decode cX1_firstFault 40 = .ok (.iinc 2 1, 3) := by decide +kernel
theorem dX1_firstFault_43 : decode cX1_firstFault 43 = .ok (.goto 20, 3) := by decide +kernel
theorem dX1_firstFault_46 : decode cX1_firstFault 46 = .ok (.aload_n 0, 1) := by decide +kernel
theorem dX1_firstFault_47 : decode cX1_firstFault 47 = .ok (.getfield 9, 3) := by decide +kernel
theorem dX1_firstFault_50 : decode cX1_firstFault 50 = .ok (.iload_n 3, 1) := by decide +kernel
theorem dX1_firstFault_51 : decode cX1_firstFault 51 = .ok (.iaload, 1) := by decide +kernel
theorem dX1_firstFault_52 : decode cX1_firstFault 52 = .ok (.bipush 46, 2) := by decide +kernel
theorem dX1_firstFault_54 : decode cX1_firstFault 54 = .ok (.if_icmp .ne 7, 3) := by decide +kernel
theorem dX1_firstFault_57 : decode cX1_firstFault 57 = .ok (.iload_n 2, 1) := by decide +kernel
theorem dX1_firstFault_58 : decode cX1_firstFault 58 = .ok (.ifCond .le 5, 3) := by decide +kernel
theorem dX1_firstFault_61 : decode cX1_firstFault 61 = .ok (.iload_n 3, 1) := by decide +kernel
theorem dX1_firstFault_62 : decode cX1_firstFault 62 = .ok (.ireturn, 1) := by decide +kernel
theorem dX1_firstFault_63 : decode cX1_firstFault 63 = .ok (.iload_n 2, 1) := by decide +kernel
theorem dX1_firstFault_64 : decode cX1_firstFault 64 = .ok (.iconst 3, 1) := by decide +kernel
theorem dX1_firstFault_65 : decode cX1_firstFault 65 = .ok (.if_icmp .eq 14, 3) := by decide +kernel
theorem dX1_firstFault_68 : decode cX1_firstFault 68 = .ok (.aload_n 0, 1) := by decide +kernel
theorem dX1_firstFault_69 : decode cX1_firstFault 69 = .ok (.getfield 9, 3) := by decide +kernel
theorem dX1_firstFault_72 : decode cX1_firstFault 72 = .ok (.iload_n 3, 1) := by decide +kernel
theorem dX1_firstFault_73 : decode cX1_firstFault 73 = .ok (.iaload, 1) := by decide +kernel
theorem dX1_firstFault_74 : decode cX1_firstFault 74 = .ok (.bipush 46, 2) := by decide +kernel
theorem dX1_firstFault_76 : decode cX1_firstFault 76 = .ok (.if_icmp .ne 8, 3) := by decide +kernel
theorem dX1_firstFault_79 : decode cX1_firstFault 79 = .ok (.iconst 0, 1) := by decide +kernel
theorem dX1_firstFault_80 : decode cX1_firstFault 80 = .ok (.istore_n 2, 1) := by decide +kernel
theorem dX1_firstFault_81 : decode cX1_firstFault 81 = .ok (.iinc 1 1, 3) := by decide +kernel
theorem dX1_firstFault_84 : decode cX1_firstFault 84 = .ok (.iinc 3 1, 3) := by decide +kernel
theorem dX1_firstFault_87 : decode cX1_firstFault 87 = .ok (.goto (-81), 3) := by decide +kernel
theorem dX1_firstFault_90 : decode cX1_firstFault 90 = .ok (.iload_n 1, 1) := by decide +kernel
theorem dX1_firstFault_91 : decode cX1_firstFault 91 = .ok (.ifCond .eq 7, 3) := by decide +kernel
theorem dX1_firstFault_94 : decode cX1_firstFault 94 = .ok (.iload_n 2, 1) := by decide +kernel
theorem dX1_firstFault_95 : decode cX1_firstFault 95 = .ok (.ifCond .le 10, 3) := by decide +kernel
theorem dX1_firstFault_98 : decode cX1_firstFault 98 = .ok (.aload_n 0, 1) := by decide +kernel
theorem dX1_firstFault_99 : decode cX1_firstFault 99 = .ok (.getfield 15, 3) := by decide +kernel
theorem dX1_firstFault_102 : decode cX1_firstFault 102 = .ok (.goto 5, 3) := by decide +kernel
theorem dX1_firstFault_105 : decode cX1_firstFault 105 = .ok (.bipush (-6), 2) := by decide +kernel
theorem dX1_firstFault_107 : decode cX1_firstFault 107 = .ok (.ireturn, 1) := by decide +kernel
set_option maxRecDepth 20000 in
theorem ggX1_paintOn_X1_partOf : GoodIn wsX1_paintOn wsX1_partOf := goodIn_r _ [6] (by decide +kernel) (by decide +kernel)
set_option maxRecDepth 20000 in
theorem gX1_paintOn_X1_partOf : GoodIn wsX1_paintOn (va_wsS RX1 21 yX1_partOf wsX1_partOf) := goodIn_app (goodIn_of _ (by decide +kernel)) ggX1_paintOn_X1_partOf
set_option maxRecDepth 20000 in
theorem ggX1_paintOn_X4_isPixel : GoodIn wsX1_paintOn wsX4_isPixel := goodIn_r _ [9] (by decide +kernel) (by decide +kernel)
set_option maxRecDepth 20000 in
theorem gX1_paintOn_X4_isPixel_n25 : GoodIn wsX1_paintOn (wsX4_isPixel) := ggX1_paintOn_X4_isPixel
theorem dX1_paintOn_0 : decode cX1_paintOn 0 = .ok (.iload_n 2, 1) := by decide +kernel
theorem dX1_paintOn_1 : decode cX1_paintOn 1 = .ok (.istore_n 3, 1) := by decide +kernel
theorem dX1_paintOn_2 : decode cX1_paintOn 2 = .ok (.iconst 0, 1) := by decide +kernel
theorem dX1_paintOn_3 : decode cX1_paintOn 3 = .ok (.istore 4, 2) := by decide +kernel
theorem dX1_paintOn_5 : decode cX1_paintOn 5 = .ok (.iconst 0, 1) := by decide +kernel
theorem dX1_paintOn_6 : decode cX1_paintOn 6 = .ok (.istore 5, 2) := by decide +kernel
theorem dX1_paintOn_8 : decode cX1_paintOn 8 = .ok (.iconst 0, 1) := by decide +kernel
theorem dX1_paintOn_9 : decode cX1_paintOn 9 = .ok (.istore 6, 2) := by decide +kernel
theorem dX1_paintOn_11 : decode cX1_paintOn 11 = .ok (.iconst 0, 1) := by decide +kernel
theorem dX1_paintOn_12 : decode cX1_paintOn 12 = .ok (.istore 7, 2) := by decide +kernel
theorem dX1_paintOn_14 : decode cX1_paintOn 14 = .ok (.iload 7, 2) := by decide +kernel
theorem dX1_paintOn_16 : decode cX1_paintOn 16 = .ok (.aload_n 0, 1) := by decide +kernel
theorem dX1_paintOn_17 : decode cX1_paintOn 17 = .ok (.getfield 15, 3) := by decide +kernel
theorem dX1_paintOn_20 : decode cX1_paintOn 20 = .ok (.if_icmp .ge 85, 3) := by decide +kernel
theorem dX1_paintOn_23 : decode cX1_paintOn 23 = .ok (.iload 7, 2) := by decide +kernel
theorem dX1_paintOn_25 : decode cX1_paintOn 25 = .ok (.bipush 48, 2) := by decide +kernel
theorem dX1_paintOn_27 : decode cX1_paintOn 27 = .ok (.if_icmp .ge 78, 3) := by decide +kernel
theorem dX1_paintOn_30 : decode cX1_paintOn 30 = .ok (.aload_n 0, 1) := by decide +kernel
theorem dX1_paintOn_31 : decode cX1_paintOn 31 = .ok (.getfield 9, 3) := by decide +kernel
theorem dX1_paintOn_34 : decode cX1_paintOn 34 = .ok (.iload 7, 2) := by decide +kernel
theorem dX1_paintOn_36 : decode cX1_paintOn 36 = .ok (.iaload, 1) := by decide +kernel
theorem dX1_paintOn_37 : decode cX1_paintOn 37 = .ok (.bipush 46, 2) := by decide +kernel
theorem dX1_paintOn_39 : decode cX1_paintOn 39 = .ok (.if_icmp .ne 9, 3) := by decide +kernel
theorem dX1_paintOn_42 : decode cX1_paintOn 42 = .ok (.iinc 3 1, 3) := by decide +kernel
theorem dX1_paintOn_45 : decode cX1_paintOn 45 = .ok (.goto 54, 3) := by decide +kernel
theorem dX1_paintOn_48 : decode cX1_paintOn 48 = .ok (.bipush 16, 2) := by decide +kernel
theorem dX1_paintOn_50 : decode cX1_paintOn 50 = .ok (.iload 6, 2) := by decide +kernel
theorem dX1_paintOn_52 : decode cX1_paintOn 52 = .ok (.imul, 1) := by decide +kernel
theorem dX1_paintOn_53 : decode cX1_paintOn 53 = .ok (.aload_n 0, 1) := by decide +kernel
theorem dX1_paintOn_54 : decode cX1_paintOn 54 = .ok (.getfield 9, 3) := by decide +kernel
theorem dX1_paintOn_57 : decode cX1_paintOn 57 = .ok (.iload 7, 2) := by decide +kernel
theorem dX1_paintOn_59 : decode cX1_paintOn 59 = .ok (.iaload, 1) := by decide +kernel
theorem dX1_paintOn_60 : decode cX1_paintOn 60 = .ok (.invokestatic 21, 3) := by decide +kernel
theorem dX1_paintOn_63 : decode cX1_paintOn 63 = .ok (.iadd, 1) := by decide +kernel
theorem dX1_paintOn_64 : decode cX1_paintOn 64 = .ok (.istore 6, 2) := by decide +kernel
theorem dX1_paintOn_66 : decode cX1_paintOn 66 = .ok (.iinc 5 1, 3) := by decide +kernel
theorem dX1_paintOn_69 : decode cX1_paintOn 69 = .ok (.iload 5, 2) := by decide +kernel
theorem dX1_paintOn_71 : decode cX1_paintOn 71 = .ok (.iconst 3, 1) := by decide +kernel
theorem dX1_paintOn_72 : decode cX1_paintOn 72 = .ok (.if_icmp .ne 27, 3) := by decide +kernel
theorem dX1_paintOn_75 : decode cX1_paintOn 75 = .ok (.iload_n 3, 1) := by decide +kernel
theorem dX1_paintOn_76 : decode cX1_paintOn 76 = .ok (.invokestatic 25, 3) := by decide +kernel
theorem dX1_paintOn_79 : decode cX1_paintOn 79 = .ok (.ifCond .eq 20, 3) := by decide +kernel
theorem dX1_paintOn_82 : decode cX1_paintOn 82 = .ok (.aload_n 1, 1) := by decide +kernel
theorem dX1_paintOn_83 : decode cX1_paintOn 83 = .ok (.iload_n 3, 1) := by decide +kernel
theorem dX1_paintOn_84 : decode cX1_paintOn 84 = .ok (.iload 6, 2) := by decide +kernel
theorem dX1_paintOn_86 : decode cX1_paintOn 86 = .ok (.iastore, 1) := by decide +kernel
theorem dX1_paintOn_87 : decode cX1_paintOn 87 = .ok (.iinc 3 1, 3) := by decide +kernel
theorem dX1_paintOn_90 : decode cX1_paintOn 90 = .ok (.iinc 4 1, 3) := by decide +kernel
theorem dX1_paintOn_93 : decode cX1_paintOn 93 = .ok (.iconst 0, 1) := by decide +kernel
theorem dX1_paintOn_94 : decode cX1_paintOn 94 = .ok (.istore 5, 2) := by decide +kernel
theorem dX1_paintOn_96 : decode cX1_paintOn 96 = .ok (.iconst 0, 1) := by decide +kernel
theorem dX1_paintOn_97 : decode cX1_paintOn 97 = .ok (.istore 6, 2) := by decide +kernel
theorem dX1_paintOn_99 : decode cX1_paintOn 99 = .ok (.iinc 7 1, 3) := by decide +kernel
theorem dX1_paintOn_102 : decode cX1_paintOn 102 = .ok (.goto (-88), 3) := by decide +kernel
theorem dX1_paintOn_105 : decode cX1_paintOn 105 = .ok (.iload 4, 2) := by decide +kernel
theorem dX1_paintOn_107 : decode cX1_paintOn 107 = .ok (.ireturn, 1) := by decide +kernel
theorem dX1_partOf_0 : decode cX1_partOf 0 = .ok (.iload_n 0, 1) := by decide +kernel
theorem dX1_partOf_1 : decode cX1_partOf 1 = .ok (.bipush 48, 2) := by decide +kernel
theorem dX1_partOf_3 : decode cX1_partOf 3 = .ok (.if_icmp .lt 14, 3) := by decide +kernel
theorem dX1_partOf_6 : decode cX1_partOf 6 = .ok (.iload_n 0, 1) := by decide +kernel
theorem dX1_partOf_7 : decode cX1_partOf 7 = .ok (.bipush 57, 2) := by decide +kernel
theorem dX1_partOf_9 : decode cX1_partOf 9 = .ok (.if_icmp .gt 8, 3) := by decide +kernel
theorem dX1_partOf_12 : decode cX1_partOf 12 = .ok (.iload_n 0, 1) := by decide +kernel
theorem dX1_partOf_13 : decode cX1_partOf 13 = .ok (.bipush 48, 2) := by decide +kernel
theorem dX1_partOf_15 : decode cX1_partOf 15 = .ok (.isub, 1) := by decide +kernel
theorem dX1_partOf_16 : decode cX1_partOf 16 = .ok (.ireturn, 1) := by decide +kernel
theorem dX1_partOf_17 : decode cX1_partOf 17 = .ok (.iload_n 0, 1) := by decide +kernel
theorem dX1_partOf_18 : decode cX1_partOf 18 = .ok (.bipush 97, 2) := by decide +kernel
theorem dX1_partOf_20 : decode cX1_partOf 20 = .ok (.if_icmp .lt 19, 3) := by decide +kernel
theorem dX1_partOf_23 : decode cX1_partOf 23 = .ok (.iload_n 0, 1) := by decide +kernel
theorem dX1_partOf_24 : decode cX1_partOf 24 = .ok (.bipush 102, 2) := by decide +kernel
theorem dX1_partOf_26 : decode cX1_partOf 26 = .ok (.if_icmp .gt 13, 3) := by decide +kernel
theorem dX1_partOf_29 : decode cX1_partOf 29 = .ok (.iload_n 0, 1) := by decide +kernel
theorem dX1_partOf_30 : decode cX1_partOf 30 = .ok (.bipush 97, 2) := by decide +kernel
theorem dX1_partOf_32 : decode cX1_partOf 32 = .ok (.isub, 1) := by decide +kernel
theorem dX1_partOf_33 : decode cX1_partOf 33 = .ok (.bipush 10, 2) := by decide +kernel
theorem dX1_partOf_35 : decode cX1_partOf 35 = .ok (.iadd, 1) := by decide +kernel
theorem dX1_partOf_36 : decode cX1_partOf 36 = .ok (.goto 4, 3) := by decide +kernel
theorem dX1_partOf_39 : decode cX1_partOf 39 = .ok (.iconst (-1), 1) := by decide +kernel
theorem dX1_partOf_40 : decode cX1_partOf 40 = .ok (.ireturn, 1) := by decide +kernel
theorem dX2_init_0 : decode cX2_init 0 = .ok (.aload_n 0, 1) := by decide +kernel
theorem dX2_init_1 : decode cX2_init 1 = .ok (.invokespecial 3, 3) := by decide +kernel
theorem dX2_init_4 : decode cX2_init 4 = .ok (.aload_n 0, 1) := by decide +kernel
theorem dX2_init_5 : decode cX2_init 5 = .ok (.bipush 6, 2) := by decide +kernel
theorem dX2_init_7 : decode cX2_init 7 = .ok (.newarray .int, 2) := by decide +kernel
theorem dX2_init_9 : decode cX2_init 9 = .ok (.putfield 9, 3) := by decide +kernel
theorem dX2_init_12 : decode cX2_init 12 = .ok (.aload_n 0, 1) := by decide +kernel
theorem dX2_init_13 : decode cX2_init 13 = .ok (.bipush 48, 2) := by decide +kernel
theorem dX2_init_15 : decode cX2_init 15 = .ok (.newarray .int, 2) := by decide +kernel
theorem dX2_init_17 : decode cX2_init 17 = .ok (.putfield 15, 3) := by decide +kernel
theorem dX2_init_20 : decode cX2_init 20 = .ok (.aload_n 0, 1) := by decide +kernel
theorem dX2_init_21 : decode cX2_init 21 = .ok (.bipush 48, 2) := by decide +kernel
theorem dX2_init_23 : decode cX2_init 23 = .ok (.newarray .int, 2) := by decide +kernel
theorem dX2_init_25 : decode cX2_init 25 = .ok (.putfield 18, 3) := by decide +kernel
theorem dX2_init_28 : decode cX2_init 28 = .ok (.aload_n 0, 1) := by decide +kernel
theorem dX2_init_29 : decode cX2_init 29 = .ok (.bipush 48, 2) := by decide +kernel
theorem dX2_init_31 : decode cX2_init 31 = .ok (.newarray .boolean, 2) := by decide +kernel
theorem dX2_init_33 : decode cX2_init 33 = .ok (.putfield 21, 3) := by decide +kernel
theorem dX2_init_36 : decode cX2_init 36 = .ok (.aload_n 0, 1) := by decide +kernel
theorem dX2_init_37 : decode cX2_init 37 = .ok (.sipush 240, 3) := by decide +kernel
theorem dX2_init_40 : decode cX2_init 40 = .ok (.putfield 25, 3) := by decide +kernel
theorem dX2_init_43 : decode cX2_init 43 = .ok (.getstatic 29, 3) := by decide +kernel
theorem dX2_init_46 : decode cX2_init 46 = .ok (.iconst 0, 1) := by decide +kernel
theorem dX2_init_47 : decode cX2_init 47 = .ok (.aload_n 0, 1) := by decide +kernel
theorem dX2_init_48 : decode cX2_init 48 = .ok (.getfield 9, 3) := by decide +kernel
theorem dX2_init_51 : decode cX2_init 51 = .ok (.iconst 0, 1) := by decide +kernel
theorem dX2_init_52 : decode cX2_init 52 = .ok (.bipush 6, 2) := by decide +kernel
theorem dX2_init_54 : decode cX2_init 54 = .ok (.invokestatic 32, 3) := by decide +kernel
theorem dX2_init_57 : decode cX2_init 57 = .ok (.return_, 1) := by decide +kernel
theorem dX2_copyFrom_0 : decode cX2_copyFrom 0 = .ok (.aload_n 1, 1) := by decide +kernel
theorem dX2_copyFrom_1 : decode cX2_copyFrom 1 = .ok (.getfield 9, 3) := by decide +kernel
theorem dX2_copyFrom_4 : decode cX2_copyFrom 4 = .ok (.iconst 0, 1) := by decide +kernel
theorem dX2_copyFrom_5 : decode cX2_copyFrom 5 = .ok (.aload_n 0, 1) := by decide +kernel
theorem dX2_copyFrom_6 : decode cX2_copyFrom 6 = .ok (.getfield 9, 3) := by decide +kernel
theorem dX2_copyFrom_9 : decode cX2_copyFrom 9 = .ok (.iconst 0, 1) := by decide +kernel
theorem dX2_copyFrom_10 : decode cX2_copyFrom 10 = .ok (.bipush 6, 2) := by decide +kernel
theorem dX2_copyFrom_12 : decode cX2_copyFrom 12 = .ok (.invokestatic 32, 3) := by decide +kernel
theorem dX2_copyFrom_15 : decode cX2_copyFrom 15 = .ok (.aload_n 1, 1) := by decide +kernel
theorem dX2_copyFrom_16 : decode cX2_copyFrom 16 = .ok (.getfield 15, 3) := by decide +kernel
theorem dX2_copyFrom_19 : decode cX2_copyFrom 19 = .ok (.iconst 0, 1) := by decide +kernel
theorem dX2_copyFrom_20 : decode cX2_copyFrom 20 = .ok (.aload_n 0, 1) := by decide +kernel
theorem dX2_copyFrom_21 : decode cX2_copyFrom 21 = .ok (.getfield 15, 3) := by decide +kernel
theorem dX2_copyFrom_24 : decode cX2_copyFrom 24 = .ok (.iconst 0, 1) := by decide +kernel
theorem dX2_copyFrom_25 : decode cX2_copyFrom 25 = .ok (.bipush 48, 2) := by decide +kernel
theorem dX2_copyFrom_27 : decode cX2_copyFrom 27 = .ok (.invokestatic 32, 3) := by decide +kernel
theorem dX2_copyFrom_30 : decode cX2_copyFrom 30 = .ok (.aload_n 1, 1) := by decide +kernel
theorem dX2_copyFrom_31 : decode cX2_copyFrom 31 = .ok (.getfield 18, 3) := by decide +kernel
theorem dX2_copyFrom_34 : decode cX2_copyFrom 34 = .ok (.iconst 0, 1) := by decide +kernel
theorem dX2_copyFrom_35 : decode cX2_copyFrom 35 = .ok (.aload_n 0, 1) := by decide +kernel
theorem dX2_copyFrom_36 : decode cX2_copyFrom 36 = .ok (.getfield 18, 3) := by decide +kernel
theorem dX2_copyFrom_39 : decode cX2_copyFrom 39 = .ok (.iconst 0, 1) := by decide +kernel
theorem dX2_copyFrom_40 : decode cX2_copyFrom 40 = .ok (.bipush 48, 2) := by decide +kernel
theorem dX2_copyFrom_42 : decode cX2_copyFrom 42 = .ok (.invokestatic 32, 3) := by decide +kernel
theorem dX2_copyFrom_45 : decode cX2_copyFrom 45 = .ok (.iconst 0, 1) := by decide +kernel
theorem dX2_copyFrom_46 : decode cX2_copyFrom 46 = .ok (.istore_n 2, 1) := by decide +kernel
theorem dX2_copyFrom_47 : decode cX2_copyFrom 47 = .ok (.iload_n 2, 1) := by decide +kernel
theorem dX2_copyFrom_48 : decode cX2_copyFrom 48 = .ok (.bipush 48, 2) := by decide +kernel
theorem dX2_copyFrom_50 : decode cX2_copyFrom 50 = .ok (.if_icmp .ge 21, 3) := by decide +kernel
theorem dX2_copyFrom_53 : decode cX2_copyFrom 53 = .ok (.aload_n 0, 1) := by decide +kernel
theorem dX2_copyFrom_54 : decode cX2_copyFrom 54 = .ok (.getfield 21, 3) := by decide +kernel
theorem dX2_copyFrom_57 : decode cX2_copyFrom 57 = .ok (.iload_n 2, 1) := by decide +kernel
theorem dX2_copyFrom_58 : decode cX2_copyFrom 58 = .ok (.aload_n 1, 1) := by decide +kernel
theorem dX2_copyFrom_59 : decode cX2_copyFrom 59 = .ok (.getfield 21, 3) := by decide +kernel
theorem dX2_copyFrom_62 : decode cX2_copyFrom 62 = .ok (.iload_n 2, 1) := by decide +kernel
theorem dX2_copyFrom_63 : decode cX2_copyFrom 63 = .ok (.baload, 1) := by decide +kernel
theorem dX2_copyFrom_64 : decode cX2_copyFrom 64 = .ok (.bastore, 1) := by decide +kernel
theorem dX2_copyFrom_65 : decode cX2_copyFrom 65 = .ok (.iinc 2 1, 3) := by decide +kernel
theorem dX2_copyFrom_68 : decode cX2_copyFrom 68 = .ok (.goto (-21), 3) := by decide +kernel
theorem dX2_copyFrom_71 : decode cX2_copyFrom 71 = .ok (.aload_n 0, 1) := by decide +kernel
theorem dX2_copyFrom_72 : decode cX2_copyFrom 72 = .ok (.aload_n 1, 1) := by decide +kernel
theorem dX2_copyFrom_73 : decode cX2_copyFrom 73 = .ok (.getfield 25, 3) := by decide +kernel
theorem dX2_copyFrom_76 : decode cX2_copyFrom 76 = .ok (.putfield 25, 3) := by decide +kernel
theorem dX2_copyFrom_79 : decode cX2_copyFrom 79 = .ok (.return_, 1) := by decide +kernel
set_option maxRecDepth 20000 in
theorem ggX2_changeSetting_X4_isSetting : GoodIn wsX2_changeSetting wsX4_isSetting := goodIn_r _ [4] (by decide +kernel) (by decide +kernel)
set_option maxRecDepth 20000 in
theorem gX2_changeSetting_X4_isSetting_n38 : GoodIn wsX2_changeSetting (wsX4_isSetting) := ggX2_changeSetting_X4_isSetting
theorem dX2_changeSetting_0 : decode cX2_changeSetting 0 = .ok (.iload_n 1, 1) := by decide +kernel
theorem dX2_changeSetting_1 : decode cX2_changeSetting 1 = .ok (.invokestatic 38, 3) := by decide +kernel
theorem dX2_changeSetting_4 : decode cX2_changeSetting 4 = .ok (.ifCond .ne 6, 3) := by decide +kernel
theorem dX2_changeSetting_7 : decode cX2_changeSetting 7 = .ok (.bipush (-2), 2) := by decide +kernel
theorem dX2_changeSetting_9 : decode cX2_changeSetting 9 = .ok (.ireturn, 1) := by decide +kernel
theorem dX2_changeSetting_10 : decode cX2_changeSetting 10 = .ok (.aload_n 0, 1) := by decide +kernel
theorem dX2_changeSetting_11 : decode cX2_changeSetting 11 = .ok (.getfield 9, 3) := by decide +kernel
theorem dX2_changeSetting_14 : decode cX2_changeSetting 14 = .ok (.iload_n 1, 1) := by decide +kernel
theorem dX2_changeSetting_15 : decode cX2_changeSetting 15 = .ok (.iaload, 1) := by decide +kernel
theorem dX2_changeSetting_16 : decode cX2_changeSetting 16 = .ok (.istore_n 3, 1) := by decide +kernel
theorem dX2_changeSetting_17 : decode cX2_changeSetting 17 = .ok (.aload_n 0, 1) := by decide +kernel
theorem dX2_changeSetting_18 : decode cX2_changeSetting 18 = .ok (.getfield 9, 3) := by decide +kernel
theorem dX2_changeSetting_21 : decode cX2_changeSetting 21 = .ok (.iload_n 1, 1) := by decide +kernel
theorem dX2_changeSetting_22 : decode cX2_changeSetting 22 = .ok (.iload_n 2, 1) := by decide +kernel
theorem dX2_changeSetting_23 : decode cX2_changeSetting 23 = .ok (.iastore, 1) := by decide +kernel
theorem dX2_changeSetting_24 : decode cX2_changeSetting 24 = .ok (.iload_n 3, 1) := by decide +kernel
theorem dX2_changeSetting_25 : decode cX2_changeSetting 25 = .ok (.ireturn, 1) := by decide +kernel
theorem dX2_picture_0 : decode cX2_picture 0 = .ok (.iload_n 1, 1) := by decide +kernel
theorem dX2_picture_1 : decode cX2_picture 1 = .ok (.ifCond .eq 10, 3) := by decide +kernel
theorem dX2_picture_4 : decode cX2_picture 4 = .ok (.aload_n 0, 1) := by decide +kernel
theorem dX2_picture_5 : decode cX2_picture 5 = .ok (.getfield 15, 3) := by decide +kernel
theorem dX2_picture_8 : decode cX2_picture 8 = .ok (.goto 7, 3) := by decide +kernel
theorem dX2_picture_11 : decode cX2_picture 11 = .ok (.aload_n 0, 1) := by decide +kernel
theorem dX2_picture_12 : decode cX2_picture 12 = .ok (.getfield 18, 3) := by decide +kernel
theorem dX2_picture_15 : decode cX2_picture 15 = .ok (.areturn, 1) := by decide +kernel
set_option maxRecDepth 20000 in
theorem ggX2_distanceOf_X4_isPixel : GoodIn wsX2_distanceOf wsX4_isPixel := goodIn_r _ [5] (by decide +kernel) (by decide +kernel)
set_option maxRecDepth 20000 in
theorem gX2_distanceOf_X4_isPixel_n42 : GoodIn wsX2_distanceOf (wsX4_isPixel) := ggX2_distanceOf_X4_isPixel
set_option maxRecDepth 20000 in
theorem ggX2_distanceOf_X4_distance : GoodIn wsX2_distanceOf wsX4_distance := goodIn_r _ [7, 8, 9, 10, 11, 12, 13, 4, 14, 15, 16, 17] (by decide +kernel) (by decide +kernel)
set_option maxRecDepth 20000 in
theorem gX2_distanceOf_X4_distance_n45 : GoodIn wsX2_distanceOf (wsX4_distance) := ggX2_distanceOf_X4_distance
theorem dX2_distanceOf_0 : decode cX2_distanceOf 0 = .ok (.iload_n 1, 1) := by decide +kernel
theorem dX2_distanceOf_1 : decode cX2_distanceOf 1 = .ok (.invokestatic 42, 3) := by decide +kernel
theorem dX2_distanceOf_4 : decode cX2_distanceOf 4 = .ok (.ifCond .eq 19, 3) := by decide +kernel
theorem dX2_distanceOf_7 : decode cX2_distanceOf 7 = .ok (.aload_n 0, 1) := by decide +kernel
theorem dX2_distanceOf_8 : decode cX2_distanceOf 8 = .ok (.getfield 15, 3) := by decide +kernel
theorem dX2_distanceOf_11 : decode cX2_distanceOf 11 = .ok (.iload_n 1, 1) := by decide +kernel
theorem dX2_distanceOf_12 : decode cX2_distanceOf 12 = .ok (.iaload, 1) := by decide +kernel
theorem dX2_distanceOf_13 : decode cX2_distanceOf 13 = .ok (.aload_n 0, 1) := by decide +kernel
theorem dX2_distanceOf_14 : decode cX2_distanceOf 14 = .ok (.getfield 25, 3) := by decide +kernel
theorem dX2_distanceOf_17 : decode cX2_distanceOf 17 = .ok (.invokestatic 45, 3) := by decide +kernel
theorem dX2_distanceOf_20 : decode cX2_distanceOf 20 = .ok (.goto 4, 3) := by decide +kernel
theorem dX2_distanceOf_23 : decode cX2_distanceOf 23 = .ok (.iconst (-1), 1) := by decide +kernel
theorem dX2_distanceOf_24 : decode cX2_distanceOf 24 = .ok (.ireturn, 1) := by decide +kernel
theorem dX2_marked_0 : decode cX2_marked 0 = .ok (.iconst 0, 1) := by decide +kernel
theorem dX2_marked_1 : decode cX2_marked 1 = .ok (.istore_n 1, 1) := by decide +kernel
theorem dX2_marked_2 : decode cX2_marked 2 = .ok (.iconst 0, 1) := by decide +kernel
theorem dX2_marked_3 : decode cX2_marked 3 = .ok (.istore_n 2, 1) := by decide +kernel
theorem dX2_marked_4 : decode cX2_marked 4 = .ok (.iload_n 2, 1) := by decide +kernel
theorem dX2_marked_5 : decode cX2_marked 5 = .ok (.bipush 48, 2) := by decide +kernel
theorem dX2_marked_7 : decode cX2_marked 7 = .ok (.if_icmp .ge 21, 3) := by decide +kernel
theorem dX2_marked_10 : decode cX2_marked 10 = .ok (.aload_n 0, 1) := by decide +kernel
theorem dX2_marked_11 : decode cX2_marked 11 = .ok (.getfield 21, 3) := by decide +kernel
theorem dX2_marked_14 : decode cX2_marked 14 = .ok (.iload_n 2, 1) := by decide +kernel
theorem dX2_marked_15 : decode cX2_marked 15 = .ok (.baload, 1) := by decide +kernel
theorem dX2_marked_16 : decode cX2_marked 16 = .ok (.ifCond .eq 6, 3) := by decide +kernel
theorem dX2_marked_19 : decode cX2_marked 19 = .ok (.iinc 1 1, 3) := by decide +kernel
theorem dX2_marked_22 : decode cX2_marked 22 = .ok (.iinc 2 1, 3) := by decide +kernel
theorem dX2_marked_25 : decode cX2_marked 25 = .ok (.goto (-21), 3) := by decide +kernel
theorem dX2_marked_28 : decode cX2_marked 28 = .ok (.iload_n 1, 1) := by decide +kernel
theorem dX2_marked_29 : decode cX2_marked 29 = .ok (.ireturn, 1) := by decide +kernel
theorem dX3_init_0 : decode cX3_init 0 = .ok (.aload_n 0, 1) := by decide +kernel
theorem dX3_init_1 : decode cX3_init 1 = .ok (.invokespecial 3, 3) := by decide +kernel
theorem dX3_init_4 : decode cX3_init 4 = .ok (.aload_n 0, 1) := by decide +kernel
theorem dX3_init_5 : decode cX3_init 5 = .ok (.bipush 48, 2) := by decide +kernel
theorem dX3_init_7 : decode cX3_init 7 = .ok (.newarray .int, 2) := by decide +kernel
theorem dX3_init_9 : decode cX3_init 9 = .ok (.putfield 9, 3) := by decide +kernel
theorem dX3_init_12 : decode cX3_init 12 = .ok (.aload_n 0, 1) := by decide +kernel
theorem dX3_init_13 : decode cX3_init 13 = .ok (.bipush 48, 2) := by decide +kernel
theorem dX3_init_15 : decode cX3_init 15 = .ok (.newarray .int, 2) := by decide +kernel
theorem dX3_init_17 : decode cX3_init 17 = .ok (.putfield 15, 3) := by decide +kernel
theorem dX3_init_20 : decode cX3_init 20 = .ok (.aload_n 0, 1) := by decide +kernel
theorem dX3_init_21 : decode cX3_init 21 = .ok (.bipush 48, 2) := by decide +kernel
theorem dX3_init_23 : decode cX3_init 23 = .ok (.newarray .int, 2) := by decide +kernel
theorem dX3_init_25 : decode cX3_init 25 = .ok (.putfield 18, 3) := by decide +kernel
theorem dX3_init_28 : decode cX3_init 28 = .ok (.aload_n 0, 1) := by decide +kernel
theorem dX3_init_29 : decode cX3_init 29 = .ok (.bipush 48, 2) := by decide +kernel
theorem dX3_init_31 : decode cX3_init 31 = .ok (.newarray .int, 2) := by decide +kernel
theorem dX3_init_33 : decode cX3_init 33 = .ok (.putfield 21, 3) := by decide +kernel
theorem dX3_init_36 : decode cX3_init 36 = .ok (.aload_n 0, 1) := by decide +kernel
theorem dX3_init_37 : decode cX3_init 37 = .ok (.bipush 48, 2) := by decide +kernel
theorem dX3_init_39 : decode cX3_init 39 = .ok (.newarray .int, 2) := by decide +kernel
theorem dX3_init_41 : decode cX3_init 41 = .ok (.putfield 24, 3) := by decide +kernel
theorem dX3_init_44 : decode cX3_init 44 = .ok (.aload_n 0, 1) := by decide +kernel
theorem dX3_init_45 : decode cX3_init 45 = .ok (.bipush 48, 2) := by decide +kernel
theorem dX3_init_47 : decode cX3_init 47 = .ok (.newarray .int, 2) := by decide +kernel
theorem dX3_init_49 : decode cX3_init 49 = .ok (.putfield 27, 3) := by decide +kernel
theorem dX3_init_52 : decode cX3_init 52 = .ok (.aload_n 0, 1) := by decide +kernel
theorem dX3_init_53 : decode cX3_init 53 = .ok (.bipush 48, 2) := by decide +kernel
theorem dX3_init_55 : decode cX3_init 55 = .ok (.newarray .int, 2) := by decide +kernel
theorem dX3_init_57 : decode cX3_init 57 = .ok (.putfield 30, 3) := by decide +kernel
theorem dX3_init_60 : decode cX3_init 60 = .ok (.aload_n 0, 1) := by decide +kernel
theorem dX3_init_61 : decode cX3_init 61 = .ok (.bipush 48, 2) := by decide +kernel
theorem dX3_init_63 : decode cX3_init 63 = .ok (.newarray .boolean, 2) := by decide +kernel
theorem dX3_init_65 : decode cX3_init 65 = .ok (.putfield 33, 3) := by decide +kernel
theorem dX3_init_68 : decode cX3_init 68 = .ok (.aload_n 0, 1) := by decide +kernel
theorem dX3_init_69 : decode cX3_init 69 = .ok (.bipush 48, 2) := by decide +kernel
theorem dX3_init_71 : decode cX3_init 71 = .ok (.newarray .int, 2) := by decide +kernel
theorem dX3_init_73 : decode cX3_init 73 = .ok (.putfield 37, 3) := by decide +kernel
theorem dX3_init_76 : decode cX3_init 76 = .ok (.aload_n 0, 1) := by decide +kernel
theorem dX3_init_77 : decode cX3_init 77 = .ok (.iconst 0, 1) := by decide +kernel
theorem dX3_init_78 : decode cX3_init 78 = .ok (.putfield 40, 3) := by decide +kernel
theorem dX3_init_81 : decode cX3_init 81 = .ok (.return_, 1) := by decide +kernel
set_option maxRecDepth 20000 in
theorem ggX3_show_X3_findOpaque : GoodIn wsX3_show wsX3_findOpaque := goodIn_r _ [5, 6, 7, 8, 9, 10, 11, 12, 13, 14, 15, 16, 17, 18, 19, 20, 21, 22, 23, 24, 25, 26, 27, 28, 29, 30, 31, 32, 4, 33, 34, 35, 36, 37, 38, 39, 40, 41, 42, 43, 44, 45, 46, 47, 48, 49, 50, 51, 52, 90, 91, 92, 93, 94, 95, 96, 97, 98, 99, 100, 101, 102, 103, 104] (by decide +kernel) (by decide +kernel)
set_option maxRecDepth 20000 in
theorem gX3_show_X3_findOpaque : GoodIn wsX3_show (wsV RX3 44 RX3 yX3_findOpaque wsX3_findOpaque) := goodIn_app (goodIn_of _ (by decide +kernel)) ggX3_show_X3_findOpaque
set_option maxRecDepth 20000 in
theorem ggX3_show_X3_findKinds : GoodIn wsX3_show wsX3_findKinds := goodIn_r _ [56, 57, 58, 59, 60, 61, 4, 62, 8, 16, 17, 18, 63, 64, 65, 66, 51, 52, 95, 96, 97, 98, 99, 100, 101, 102, 103, 104, 90, 91, 92, 93, 94] (by decide +kernel) (by decide +kernel)
set_option maxRecDepth 20000 in
theorem gX3_show_X3_findKinds : GoodIn wsX3_show (wsV RX3 48 RX3 yX3_findKinds wsX3_findKinds) := goodIn_app (goodIn_of _ (by decide +kernel)) ggX3_show_X3_findKinds
set_option maxRecDepth 20000 in
theorem ggX3_show_X3_compose : GoodIn wsX3_show wsX3_compose := goodIn_r _ [70, 71, 72, 73, 74, 57, 75, 76, 77, 8, 78, 17, 79, 25, 26, 27, 28, 29, 30, 80, 81, 82, 83, 23, 84, 85, 86, 4, 87, 6, 88, 89, 90, 91, 92, 93, 94, 95, 96, 97, 98, 99, 100, 101, 102, 103, 104] (by decide +kernel) (by decide +kernel)
set_option maxRecDepth 20000 in
theorem gX3_show_X3_compose : GoodIn wsX3_show (wsV RX3 51 RX3 yX3_compose wsX3_compose) := goodIn_app (goodIn_of _ (by decide +kernel)) ggX3_show_X3_compose
theorem dX3_show_0 : decode cX3_show 0 = .ok (.aload_n 0, 1) := by decide +kernel
theorem dX3_show_1 : decode cX3_show 1 = .ok (.aload_n 1, 1) := by decide +kernel
theorem dX3_show_2 : decode cX3_show 2 = .ok (.invokevirtual 44, 3) := by decide +kernel
theorem dX3_show_5 : decode cX3_show 5 = .ok (.aload_n 0, 1) := by decide +kernel
theorem dX3_show_6 : decode cX3_show 6 = .ok (.aload_n 1, 1) := by decide +kernel
theorem dX3_show_7 : decode cX3_show 7 = .ok (.invokevirtual 48, 3) := by decide +kernel
theorem dX3_show_10 : decode cX3_show 10 = .ok (.aload_n 0, 1) := by decide +kernel
theorem dX3_show_11 : decode cX3_show 11 = .ok (.aload_n 1, 1) := by decide +kernel
theorem dX3_show_12 : decode cX3_show 12 = .ok (.invokevirtual 51, 3) := by decide +kernel
theorem dX3_show_15 : decode cX3_show 15 = .ok (.return_, 1) := by decide +kernel
set_option maxRecDepth 20000 in
theorem ggX3_clearPixels_X3_findOpaque : GoodIn wsX3_clearPixels wsX3_findOpaque := goodIn_r _ [7, 8, 9, 1, 10, 11, 12, 13, 14, 15, 16, 17, 18, 19, 20, 21, 22, 23, 24, 25, 26, 27, 28, 29, 30, 31, 32, 33, 6, 34, 35, 36, 37, 38, 39, 40, 41, 42, 43, 44, 45, 46, 47, 48, 49, 50, 51, 52, 53, 64, 65, 66, 67, 68, 54, 55, 56, 57, 58, 59, 60, 61, 62, 63] (by decide +kernel) (by decide +kernel)
set_option maxRecDepth 20000 in
theorem gX3_clearPixels_X3_findOpaque : GoodIn wsX3_clearPixels (wsV RX3 44 RX3 yX3_findOpaque wsX3_findOpaque) := goodIn_app (goodIn_of _ (by decide +kernel)) ggX3_clearPixels_X3_findOpaque
theorem dX3_clearPixels_0 : decode cX3_clearPixels 0 = .ok (.aload_n 0, 1) := by decide +kernel
theorem dX3_clearPixels_1 : decode cX3_clearPixels 1 = .ok (.aload_n 1, 1) := by decide +kernel
theorem dX3_clearPixels_2 : decode cX3_clearPixels 2 = .ok (.invokevirtual 44, 3) := by decide +kernel
theorem dX3_clearPixels_5 : decode cX3_clearPixels 5 = .ok (.iconst 0, 1) := by decide +kernel
theorem dX3_clearPixels_6 : decode cX3_clearPixels 6 = .ok (.istore_n 2, 1) := by decide +kernel
theorem dX3_clearPixels_7 : decode cX3_clearPixels 7 = .ok (.iconst 0, 1) := by decide +kernel
theorem dX3_clearPixels_8 : decode cX3_clearPixels 8 = .ok (.istore_n 3, 1) := by decide +kernel
theorem dX3_clearPixels_9 : decode cX3_clearPixels 9 = .ok (.iload_n 3, 1) := by decide +kernel
theorem dX3_clearPixels_10 : decode cX3_clearPixels 10 = .ok (.bipush 48, 2) := by decide +kernel
theorem dX3_clearPixels_12 : decode cX3_clearPixels 12 = .ok (.if_icmp .ge 30, 3) := by decide +kernel
theorem dX3_clearPixels_15 : decode cX3_clearPixels 15 = .ok (.aload_n 0, 1) := by decide +kernel
theorem dX3_clearPixels_16 : decode cX3_clearPixels 16 = .ok (.getfield 15, 3) := by decide +kernel
theorem dX3_clearPixels_19 : decode cX3_clearPixels 19 = .ok (.iload_n 3, 1) := by decide +kernel
theorem dX3_clearPixels_20 : decode cX3_clearPixels 20 = .ok (.iaload, 1) := by decide +kernel
theorem dX3_clearPixels_21 : decode cX3_clearPixels 21 = .ok (.ifCond .ne 15, 3) := by decide +kernel
theorem dX3_clearPixels_24 : decode cX3_clearPixels 24 = .ok (.aload_n 1, 1) := by decide +kernel
theorem dX3_clearPixels_25 : decode cX3_clearPixels 25 = .ok (.getfield 54, 3) := by decide +kernel
theorem dX3_clearPixels_28 : decode cX3_clearPixels 28 = .ok (.iload_n 3, 1) := by decide +kernel
theorem dX3_clearPixels_29 : decode cX3_clearPixels 29 = .ok (.baload, 1) := by decide +kernel
theorem dX3_clearPixels_30 : decode cX3_clearPixels 30 = .ok (.ifCond .ne 6, 3) := by decide +kernel
theorem dX3_clearPixels_33 : decode cX3_clearPixels 33 = .ok (.iinc 2 1, 3) := by decide +kernel
theorem dX3_clearPixels_36 : decode cX3_clearPixels 36 = .ok (.iinc 3 1, 3) := by decide +kernel
theorem dX3_clearPixels_39 : decode cX3_clearPixels 39 = .ok (.goto (-30), 3) := by decide +kernel
theorem dX3_clearPixels_42 : decode cX3_clearPixels 42 = .ok (.iload_n 2, 1) := by decide +kernel
theorem dX3_clearPixels_43 : decode cX3_clearPixels 43 = .ok (.ireturn, 1) := by decide +kernel
theorem dX3_ofKind_0 : decode cX3_ofKind 0 = .ok (.iconst 0, 1) := by decide +kernel
theorem dX3_ofKind_1 : decode cX3_ofKind 1 = .ok (.istore_n 2, 1) := by decide +kernel
theorem dX3_ofKind_2 : decode cX3_ofKind 2 = .ok (.iconst 0, 1) := by decide +kernel
theorem dX3_ofKind_3 : decode cX3_ofKind 3 = .ok (.istore_n 3, 1) := by decide +kernel
theorem dX3_ofKind_4 : decode cX3_ofKind 4 = .ok (.iload_n 3, 1) := by decide +kernel
theorem dX3_ofKind_5 : decode cX3_ofKind 5 = .ok (.bipush 48, 2) := by decide +kernel
theorem dX3_ofKind_7 : decode cX3_ofKind 7 = .ok (.if_icmp .ge 22, 3) := by decide +kernel
theorem dX3_ofKind_10 : decode cX3_ofKind 10 = .ok (.aload_n 0, 1) := by decide +kernel
theorem dX3_ofKind_11 : decode cX3_ofKind 11 = .ok (.getfield 18, 3) := by decide +kernel
theorem dX3_ofKind_14 : decode cX3_ofKind 14 = .ok (.iload_n 3, 1) := by decide +kernel
theorem dX3_ofKind_15 : decode cX3_ofKind 15 = .ok (.iaload, 1) := by decide +kernel
theorem dX3_ofKind_16 : decode cX3_ofKind 16 = .ok (.iload_n 1, 1) := by decide +kernel
theorem dX3_ofKind_17 : decode cX3_ofKind 17 = .ok (.if_icmp .ne 6, 3) := by decide +kernel
theorem dX3_ofKind_20 : decode cX3_ofKind 20 = .ok (.iinc 2 1, 3) := by decide +kernel
theorem dX3_ofKind_23 : decode cX3_ofKind 23 = .ok (.iinc 3 1, 3) := by decide +kernel
theorem dX3_ofKind_26 : decode cX3_ofKind 26 = .ok (.goto (-22), 3) := by decide +kernel
theorem dX3_ofKind_29 : decode cX3_ofKind 29 = .ok (.iload_n 2, 1) := by decide +kernel
theorem dX3_ofKind_30 : decode cX3_ofKind 30 = .ok (.ireturn, 1) := by decide +kernel
theorem dX3_closed_0 : decode cX3_closed 0 = .ok (.iconst 0, 1) := by decide +kernel
theorem dX3_closed_1 : decode cX3_closed 1 = .ok (.istore_n 1, 1) := by decide +kernel
theorem dX3_closed_2 : decode cX3_closed 2 = .ok (.iconst 0, 1) := by decide +kernel
theorem dX3_closed_3 : decode cX3_closed 3 = .ok (.istore_n 2, 1) := by decide +kernel
theorem dX3_closed_4 : decode cX3_closed 4 = .ok (.iload_n 2, 1) := by decide +kernel
theorem dX3_closed_5 : decode cX3_closed 5 = .ok (.bipush 48, 2) := by decide +kernel
theorem dX3_closed_7 : decode cX3_closed 7 = .ok (.if_icmp .ge 27, 3) := by decide +kernel
theorem dX3_closed_10 : decode cX3_closed 10 = .ok (.aload_n 0, 1) := by decide +kernel
theorem dX3_closed_11 : decode cX3_closed 11 = .ok (.getfield 15, 3) := by decide +kernel
theorem dX3_closed_14 : decode cX3_closed 14 = .ok (.iload_n 2, 1) := by decide +kernel
theorem dX3_closed_15 : decode cX3_closed 15 = .ok (.iaload, 1) := by decide +kernel
theorem dX3_closed_16 : decode cX3_closed 16 = .ok (.aload_n 0, 1) := by decide +kernel
theorem dX3_closed_17 : decode cX3_closed 17 = .ok (.getfield 9, 3) := by decide +kernel
theorem dX3_closed_20 : decode cX3_closed 20 = .ok (.iload_n 2, 1) := by decide +kernel
theorem dX3_closed_21 : decode cX3_closed 21 = .ok (.iaload, 1) := by decide +kernel
theorem dX3_closed_22 : decode cX3_closed 22 = .ok (.if_icmp .eq 6, 3) := by decide +kernel
theorem dX3_closed_25 : decode cX3_closed 25 = .ok (.iinc 1 1, 3) := by decide +kernel
theorem dX3_closed_28 : decode cX3_closed 28 = .ok (.iinc 2 1, 3) := by decide +kernel
theorem dX3_closed_31 : decode cX3_closed 31 = .ok (.goto (-27), 3) := by decide +kernel
theorem dX3_closed_34 : decode cX3_closed 34 = .ok (.iload_n 1, 1) := by decide +kernel
theorem dX3_closed_35 : decode cX3_closed 35 = .ok (.ireturn, 1) := by decide +kernel
set_option maxRecDepth 20000 in
theorem ggX3_spillLeft_X4_mainPart : GoodIn wsX3_spillLeft wsX4_mainPart := goodIn_r _ [5, 6, 7, 4, 8, 9, 10, 11] (by decide +kernel) (by decide +kernel)
set_option maxRecDepth 20000 in
theorem gX3_spillLeft_X4_mainPart_n62 : GoodIn wsX3_spillLeft (wsX4_mainPart) := ggX3_spillLeft_X4_mainPart
set_option maxRecDepth 20000 in
theorem ggX3_spillLeft_X4_spillIn : GoodIn wsX3_spillLeft wsX4_spillIn := goodIn_r _ [13, 14, 15, 16, 17, 6, 7, 4, 8, 9, 10, 11] (by decide +kernel) (by decide +kernel)
set_option maxRecDepth 20000 in
theorem gX3_spillLeft_X4_spillIn_n66 : GoodIn wsX3_spillLeft (wsX4_spillIn) := ggX3_spillLeft_X4_spillIn
theorem dX3_spillLeft_0 : decode cX3_spillLeft 0 = .ok (.aload_n 1, 1) := by decide +kernel
theorem dX3_spillLeft_1 : decode cX3_spillLeft 1 = .ok (.getfield 59, 3) := by decide +kernel
theorem dX3_spillLeft_4 : decode cX3_spillLeft 4 = .ok (.invokestatic 62, 3) := by decide +kernel
theorem dX3_spillLeft_7 : decode cX3_spillLeft 7 = .ok (.istore_n 2, 1) := by decide +kernel
theorem dX3_spillLeft_8 : decode cX3_spillLeft 8 = .ok (.iconst 0, 1) := by decide +kernel
theorem dX3_spillLeft_9 : decode cX3_spillLeft 9 = .ok (.istore_n 3, 1) := by decide +kernel
theorem dX3_spillLeft_10 : decode cX3_spillLeft 10 = .ok (.iconst 0, 1) := by decide +kernel
theorem dX3_spillLeft_11 : decode cX3_spillLeft 11 = .ok (.istore 4, 2) := by decide +kernel
theorem dX3_spillLeft_13 : decode cX3_spillLeft 13 = .ok (.iload 4, 2) := by decide +kernel
theorem dX3_spillLeft_15 : decode cX3_spillLeft 15 = .ok (.bipush 48, 2) := by decide +kernel
theorem dX3_spillLeft_17 : decode cX3_spillLeft 17 = .ok (.if_icmp .ge 23, 3) := by decide +kernel
theorem dX3_spillLeft_20 : decode cX3_spillLeft 20 = .ok (.iload_n 3, 1) := by decide +kernel
theorem dX3_spillLeft_21 : decode cX3_spillLeft 21 = .ok (.aload_n 0, 1) := by decide +kernel
theorem dX3_spillLeft_22 : decode cX3_spillLeft 22 = .ok (.getfield 30, 3) := by decide +kernel
theorem dX3_spillLeft_25 : decode cX3_spillLeft 25 = .ok (.iload 4, 2) := by decide +kernel
theorem dX3_spillLeft_27 : decode cX3_spillLeft 27 = .ok (.iaload, 1) := by decide +kernel
theorem dX3_spillLeft_28 : decode cX3_spillLeft 28 = .ok (.iload_n 2, 1) := by decide +kernel
theorem dX3_spillLeft_29 : decode cX3_spillLeft 29 = .ok (.invokestatic 66, 3) := by decide +kernel
theorem dX3_spillLeft_32 : decode cX3_spillLeft 32 = .ok (.iadd, 1) := by decide +kernel
theorem dX3_spillLeft_33 : decode cX3_spillLeft 33 = .ok (.istore_n 3, 1) := by decide +kernel
theorem dX3_spillLeft_34 : decode cX3_spillLeft 34 = .ok (.iinc 4 1, 3) := by decide +kernel
theorem dX3_spillLeft_37 : decode cX3_spillLeft 37 = .ok (.goto (-24), 3) := by decide +kernel
theorem dX3_spillLeft_40 : decode cX3_spillLeft 40 = .ok (.iload_n 3, 1) := by decide +kernel
theorem dX3_spillLeft_41 : decode cX3_spillLeft 41 = .ok (.ireturn, 1) := by decide +kernel
set_option maxRecDepth 20000 in
theorem ggX3_findOpaque_X2_distanceOf : GoodIn wsX3_findOpaque wsX2_distanceOf := goodIn_r _ [8, 9, 10, 11, 12, 13, 14, 15, 16, 17, 18, 19, 20, 21, 22, 23, 24, 25, 49, 50, 51, 52, 53] (by decide +kernel) (by decide +kernel)
set_option maxRecDepth 20000 in
theorem gX3_findOpaque_X2_distanceOf : GoodIn wsX3_findOpaque (wsV RX3 73 RX2 yX2_distanceOf wsX2_distanceOf) := goodIn_app (goodIn_of _ (by decide +kernel)) ggX3_findOpaque_X2_distanceOf
set_option maxRecDepth 20000 in
theorem ggX3_findOpaque_X3_rawOpaque : GoodIn wsX3_findOpaque wsX3_rawOpaque := goodIn_r _ [29] (by decide +kernel) (by decide +kernel)
set_option maxRecDepth 20000 in
theorem gX3_findOpaque_X3_rawOpaque : GoodIn wsX3_findOpaque (va_wsS RX3 76 yX3_rawOpaque wsX3_rawOpaque) := goodIn_app (goodIn_of _ (by decide +kernel)) ggX3_findOpaque_X3_rawOpaque
set_option maxRecDepth 20000 in
theorem ggX3_findOpaque_X3_closeHoles : GoodIn wsX3_findOpaque wsX3_closeHoles := goodIn_r _ [33, 34, 3, 35, 36, 37, 28, 38, 39, 40, 41, 12, 42, 43, 44, 45, 46, 2, 11, 13, 47, 48, 54, 55, 56, 57, 58, 59, 60, 61, 62, 63] (by decide +kernel) (by decide +kernel)
set_option maxRecDepth 20000 in
theorem gX3_findOpaque_X3_closeHoles : GoodIn wsX3_findOpaque (wsV RX3 80 RX3 yX3_closeHoles wsX3_closeHoles) := goodIn_app (goodIn_of _ (by decide +kernel)) ggX3_findOpaque_X3_closeHoles
theorem dX3_findOpaque_0 : decode cX3_findOpaque 0 = .ok (.aload_n 1, 1) := by decide +kernel
theorem dX3_findOpaque_1 : decode cX3_findOpaque 1 = .ok (.getfield 70, 3) := by decide +kernel
theorem dX3_findOpaque_4 : decode cX3_findOpaque 4 = .ok (.iconst 0, 1) := by decide +kernel
theorem dX3_findOpaque_5 : decode cX3_findOpaque 5 = .ok (.iaload, 1) := by decide +kernel
theorem dX3_findOpaque_6 : decode cX3_findOpaque 6 = .ok (.istore_n 2, 1) := by decide +kernel
theorem dX3_findOpaque_7 : decode cX3_findOpaque 7 = .ok (.aload_n 1, 1) := by decide +kernel
theorem dX3_findOpaque_8 : decode cX3_findOpaque 8 = .ok (.getfield 70, 3) := by decide +kernel
theorem dX3_findOpaque_11 : decode cX3_findOpaque 11 = .ok (.iconst 1, 1) := by decide +kernel
theorem dX3_findOpaque_12 : decode cX3_findOpaque 12 = .ok (.iaload, 1) := by decide +kernel
theorem dX3_findOpaque_13 : decode cX3_findOpaque 13 = .ok (.istore_n 3, 1) := by decide +kernel
theorem dX3_findOpaque_14 : decode cX3_findOpaque 14 = .ok (.iconst 0, 1) := by decide +kernel
theorem dX3_findOpaque_15 : decode cX3_findOpaque 15 = .ok (.istore 4, 2) := by decide +kernel
theorem dX3_findOpaque_17 : decode cX3_findOpaque 17 = .ok (.iload 4, 2) := by decide +kernel
theorem dX3_findOpaque_19 : decode cX3_findOpaque 19 = .ok (.bipush 48, 2) := by decide +kernel
theorem dX3_findOpaque_21 : decode cX3_findOpaque 21 = .ok (.if_icmp .ge 41, 3) := by decide +kernel
theorem dX3_findOpaque_24 : decode cX3_findOpaque 24 = .ok (.aload_n 0, 1) := by decide +kernel
theorem dX3_findOpaque_25 : decode cX3_findOpaque 25 = .ok (.getfield 9, 3) := by decide +kernel
theorem dX3_findOpaque_28 : decode cX3_findOpaque 28 = .ok (.iload 4, 2) := by decide +kernel
theorem dX3_findOpaque_30 : decode cX3_findOpaque 30 = .ok (.aload_n 1, 1) := by decide +kernel
theorem dX3_findOpaque_31 : decode cX3_findOpaque 31 = .ok (.iload 4, 2) := by decide +kernel
theorem dX3_findOpaque_33 : decode cX3_findOpaque 33 = .ok (.invokevirtual 73, 3) := by decide +kernel
theorem dX3_findOpaque_36 : decode cX3_findOpaque 36 = .ok (.iload_n 2, 1) := by decide +kernel
theorem dX3_findOpaque_37 : decode cX3_findOpaque 37 = .ok (.iload_n 3, 1) := by decide +kernel
theorem dX3_findOpaque_38 : decode cX3_findOpaque 38 = .ok (.invokestatic 76, 3) := by decide +kernel
theorem dX3_findOpaque_41 : decode cX3_findOpaque 41 = .ok (.iastore, 1) := by decide +kernel
theorem dX3_findOpaque_42 : decode cX3_findOpaque 42 = .ok (.aload_n 0, 1) := by decide +kernel
theorem dX3_findOpaque_43 : decode cX3_findOpaque 43 = .ok (.getfield 15, 3) := by decide +kernel
theorem dX3_findOpaque_46 : decode cX3_findOpaque 46 = .ok (.iload 4, 2) := by decide +kernel
theorem dX3_findOpaque_48 : decode cX3_findOpaque 48 = .ok (.aload_n 0, 1) := by decide +kernel
theorem dX3_findOpaque_49 : decode cX3_findOpaque 49 = .ok (.getfield 9, 3) := by decide +kernel
theorem dX3_findOpaque_52 : decode cX3_findOpaque 52 = .ok (.iload 4, 2) := by decide +kernel
theorem dX3_findOpaque_54 : decode cX3_findOpaque 54 = .ok (.iaload, 1) := by decide +kernel
theorem dX3_findOpaque_55 : decode cX3_findOpaque 55 = .ok (.iastore, 1) := by decide +kernel
theorem dX3_findOpaque_56 : decode cX3_findOpaque 56 = .ok (.iinc 4 1, 3) := by decide +kernel
theorem dX3_findOpaque_59 : decode cX3_findOpaque 59 = .ok (.goto (-42), 3) := by decide +kernel
theorem dX3_findOpaque_62 : decode cX3_findOpaque 62 = .ok (.aload_n 1, 1) := by decide +kernel
theorem dX3_findOpaque_63 : decode cX3_findOpaque 63 = .ok (.getfield 70, 3) := by decide +kernel
theorem dX3_findOpaque_66 : decode cX3_findOpaque 66 = .ok (.iconst 5, 1) := by decide +kernel
theorem dX3_findOpaque_67 : decode cX3_findOpaque 67 = .ok (.iaload, 1) := by decide +kernel
theorem dX3_findOpaque_68 : decode cX3_findOpaque 68 = .ok (.iconst 1, 1) := by decide +kernel
theorem dX3_findOpaque_69 : decode cX3_findOpaque 69 = .ok (.if_icmp .ne 7, 3) := by decide +kernel
theorem dX3_findOpaque_72 : decode cX3_findOpaque 72 = .ok (.aload_n 0, 1) := by decide +kernel
theorem dX3_findOpaque_73 : decode cX3_findOpaque 73 = .ok (.invokevirtual 80, 3) := by decide +kernel
theorem dX3_findOpaque_76 : decode cX3_findOpaque 76 = .ok (.return_, 1) := by decide +kernel
theorem dX3_rawOpaque_0 : decode cX3_rawOpaque 0 = .ok (.iload_n 0, 1) := by decide +kernel
theorem dX3_rawOpaque_1 : decode cX3_rawOpaque 1 = .ok (.iload_n 1, 1) := by decide +kernel
theorem dX3_rawOpaque_2 : decode cX3_rawOpaque 2 = .ok (.if_icmp .gt 5, 3) := by decide +kernel
theorem dX3_rawOpaque_5 : decode cX3_rawOpaque 5 = .ok (.iconst 0, 1) := by decide +kernel
theorem dX3_rawOpaque_6 : decode cX3_rawOpaque 6 = .ok (.ireturn, 1) := by decide +kernel
theorem dX3_rawOpaque_7 : decode cX3_rawOpaque 7 = .ok (.iload_n 0, 1) := by decide +kernel
theorem dX3_rawOpaque_8 : decode cX3_rawOpaque 8 = .ok (.iload_n 2, 1) := by decide +kernel
theorem dX3_rawOpaque_9 : decode cX3_rawOpaque 9 = .ok (.if_icmp .lt 6, 3) := by decide +kernel
theorem dX3_rawOpaque_12 : decode cX3_rawOpaque 12 = .ok (.bipush 16, 2) := by decide +kernel
theorem dX3_rawOpaque_14 : decode cX3_rawOpaque 14 = .ok (.ireturn, 1) := by decide +kernel
theorem dX3_rawOpaque_15 : decode cX3_rawOpaque 15 = .ok (.bipush 16, 2) := by decide +kernel
theorem dX3_rawOpaque_17 : decode cX3_rawOpaque 17 = .ok (.iload_n 0, 1) := by decide +kernel
theorem dX3_rawOpaque_18 : decode cX3_rawOpaque 18 = .ok (.iload_n 1, 1) := by decide +kernel
theorem dX3_rawOpaque_19 : decode cX3_rawOpaque 19 = .ok (.isub, 1) := by decide +kernel
theorem dX3_rawOpaque_20 : decode cX3_rawOpaque 20 = .ok (.imul, 1) := by decide +kernel
theorem dX3_rawOpaque_21 : decode cX3_rawOpaque 21 = .ok (.iload_n 2, 1) := by decide +kernel
theorem dX3_rawOpaque_22 : decode cX3_rawOpaque 22 = .ok (.iload_n 1, 1) := by decide +kernel
theorem dX3_rawOpaque_23 : decode cX3_rawOpaque 23 = .ok (.isub, 1) := by decide +kernel
theorem dX3_rawOpaque_24 : decode cX3_rawOpaque 24 = .ok (.idiv, 1) := by decide +kernel
theorem dX3_rawOpaque_25 : decode cX3_rawOpaque 25 = .ok (.ireturn, 1) := by decide +kernel
set_option maxRecDepth 20000 in
theorem ggX3_closeHoles_X3_reachFromEdge : GoodIn wsX3_closeHoles wsX3_reachFromEdge := goodIn_r _ [7, 8, 1, 9, 10, 11, 12, 13, 14, 15, 6, 16, 17, 18, 19, 20, 21, 22, 23, 24, 25, 26, 27, 28, 29, 30, 31] (by decide +kernel) (by decide +kernel)
set_option maxRecDepth 20000 in
theorem gX3_closeHoles_X3_reachFromEdge : GoodIn wsX3_closeHoles (wsV RX3 83 RX3 yX3_reachFromEdge wsX3_reachFromEdge) := goodIn_app (goodIn_of _ (by decide +kernel)) ggX3_closeHoles_X3_reachFromEdge
theorem dX3_closeHoles_0 : decode cX3_closeHoles 0 = .ok (.aload_n 0, 1) := by decide +kernel
theorem dX3_closeHoles_1 : decode cX3_closeHoles 1 = .ok (.invokevirtual 83, 3) := by decide +kernel
theorem dX3_closeHoles_4 : decode cX3_closeHoles 4 = .ok (.iconst 0, 1) := by decide +kernel
theorem dX3_closeHoles_5 : decode cX3_closeHoles 5 = .ok (.istore_n 1, 1) := by decide +kernel
theorem dX3_closeHoles_6 : decode cX3_closeHoles 6 = .ok (.iload_n 1, 1) := by decide +kernel
theorem dX3_closeHoles_7 : decode cX3_closeHoles 7 = .ok (.bipush 48, 2) := by decide +kernel
theorem dX3_closeHoles_9 : decode cX3_closeHoles 9 = .ok (.if_icmp .ge 26, 3) := by decide +kernel
theorem dX3_closeHoles_12 : decode cX3_closeHoles 12 = .ok (.aload_n 0, 1) := by decide +kernel
theorem dX3_closeHoles_13 : decode cX3_closeHoles 13 = .ok (.getfield 33, 3) := by decide +kernel
theorem dX3_closeHoles_16 : decode cX3_closeHoles 16 = .ok (.iload_n 1, 1) := by decide +kernel
theorem dX3_closeHoles_17 : decode cX3_closeHoles 17 = .ok (.baload, 1) := by decide +kernel
theorem dX3_closeHoles_18 : decode cX3_closeHoles 18 = .ok (.ifCond .ne 11, 3) := by decide +kernel
theorem dX3_closeHoles_21 : decode cX3_closeHoles 21 = .ok (.aload_n 0, 1) := by decide +kernel
theorem dX3_closeHoles_22 : decode cX3_closeHoles 22 = .ok (.getfield 15, 3) := by decide +kernel
theorem dX3_closeHoles_25 : decode cX3_closeHoles 25 = .ok (.iload_n 1, 1) := by decide +kernel
theorem dX3_closeHoles_26 : decode cX3_closeHoles 26 = .ok (.bipush 16, 2) := by decide +kernel
theorem dX3_closeHoles_28 : decode cX3_closeHoles 28 = .ok (.iastore, 1) := by decide +kernel
theorem dX3_closeHoles_29 : decode cX3_closeHoles 29 = .ok (.iinc 1 1, 3) := by decide +kernel
theorem dX3_closeHoles_32 : decode cX3_closeHoles 32 = .ok (.goto (-26), 3) := by decide +kernel
theorem dX3_closeHoles_35 : decode cX3_closeHoles 35 = .ok (.return_, 1) := by decide +kernel
set_option maxRecDepth 20000 in
theorem ggX3_reachFromEdge_X4_isAtEdge : GoodIn wsX3_reachFromEdge wsX4_isAtEdge := goodIn_r _ [6] (by decide +kernel) (by decide +kernel)
set_option maxRecDepth 20000 in
theorem gX3_reachFromEdge_X4_isAtEdge_n86 : GoodIn wsX3_reachFromEdge (wsX4_isAtEdge) := ggX3_reachFromEdge_X4_isAtEdge
set_option maxRecDepth 20000 in
theorem ggX3_reachFromEdge_X3_reach : GoodIn wsX3_reachFromEdge wsX3_reach := goodIn_r _ [11, 12, 2, 1, 3, 13, 5, 14, 17, 18, 19, 20, 21, 22, 23, 24, 25, 26] (by decide +kernel) (by decide +kernel)
set_option maxRecDepth 20000 in
theorem gX3_reachFromEdge_X3_reach : GoodIn wsX3_reachFromEdge (wsV RX3 90 RX3 yX3_reach wsX3_reach) := goodIn_app (goodIn_of _ (by decide +kernel)) ggX3_reachFromEdge_X3_reach
set_option maxRecDepth 20000 in
theorem ggX3_reachFromEdge_X4_beside : GoodIn wsX3_reachFromEdge wsX4_beside := goodIn_r _ [16] (by decide +kernel) (by decide +kernel)
set_option maxRecDepth 20000 in
theorem gX3_reachFromEdge_X4_beside_n94 : GoodIn wsX3_reachFromEdge (wsX4_beside) := ggX3_reachFromEdge_X4_beside
theorem dX3_reachFromEdge_0 : decode cX3_reachFromEdge 0 = .ok (.aload_n 0, 1) := by decide +kernel
theorem dX3_reachFromEdge_1 : decode cX3_reachFromEdge 1 = .ok (.iconst 0, 1) := by decide +kernel
theorem dX3_reachFromEdge_2 : decode cX3_reachFromEdge 2 = .ok (.putfield 40, 3) := by decide +kernel
theorem dX3_reachFromEdge_5 : decode cX3_reachFromEdge 5 = .ok (.iconst 0, 1) := by decide +kernel
theorem dX3_reachFromEdge_6 : decode cX3_reachFromEdge 6 = .ok (.istore_n 1, 1) := by decide +kernel
theorem dX3_reachFromEdge_7 : decode cX3_reachFromEdge 7 = .ok (.iload_n 1, 1) := by decide +kernel
theorem dX3_reachFromEdge_8 : decode cX3_reachFromEdge 8 = .ok (.bipush 48, 2) := by decide +kernel
theorem dX3_reachFromEdge_10 : decode cX3_reachFromEdge 10 = .ok (.if_icmp .ge 16, 3) := by decide +kernel
theorem dX3_reachFromEdge_13 : decode cX3_reachFromEdge 13 = .ok (.aload_n 0, 1) := by decide +kernel
theorem dX3_reachFromEdge_14 : decode cX3_reachFromEdge 14 = .ok (.getfield 33, 3) := by decide +kernel
theorem dX3_reachFromEdge_17 : decode cX3_reachFromEdge 17 = .ok (.iload_n 1, 1) := by decide +kernel
theorem dX3_reachFromEdge_18 : decode cX3_reachFromEdge 18 = .ok (.iconst 0, 1) := by decide +kernel
theorem dX3_reachFromEdge_19 : decode cX3_reachFromEdge 19 = .ok (.bastore, 1) := by decide +kernel
theorem dX3_reachFromEdge_20 : decode cX3_reachFromEdge 20 = .ok (.iinc 1 1, 3) := by decide +kernel
theorem dX3_reachFromEdge_23 : decode cX3_reachFromEdge 23 = .ok (.goto (-16), 3) := by decide +kernel
theorem dX3_reachFromEdge_26 : decode cX3_reachFromEdge 26 = .ok (.iconst 0, 1) := by decide +kernel
theorem dX3_reachFromEdge_27 : decode cX3_reachFromEdge 27 = .ok (.istore_n 1, 1) := by decide +kernel
theorem dX3_reachFromEdge_28 : decode cX3_reachFromEdge 28 = .ok (.iload_n 1, 1) := by decide +kernel
theorem dX3_reachFromEdge_29 : decode cX3_reachFromEdge 29 = .ok (.bipush 48, 2) := by decide +kernel
theorem dX3_reachFromEdge_31 : decode cX3_reachFromEdge 31 = .ok (.if_icmp .ge 21, 3) := by decide +kernel
theorem dX3_reachFromEdge_34 : decode cX3_reachFromEdge 34 = .ok (.iload_n 1, 1) := by decide +kernel
theorem dX3_reachFromEdge_35 : decode cX3_reachFromEdge 35 = .ok (.invokestatic 86, 3) := by decide +kernel
theorem dX3_reachFromEdge_38 : decode cX3_reachFromEdge 38 = .ok (.ifCond .eq 8, 3) := by decide +kernel
theorem dX3_reachFromEdge_41 : decode cX3_reachFromEdge 41 = .ok (.aload_n 0, 1) := by decide +kernel
theorem dX3_reachFromEdge_42 : decode cX3_reachFromEdge 42 = .ok (.iload_n 1, 1) := by decide +kernel
theorem dX3_reachFromEdge_43 : decode cX3_reachFromEdge 43 = .ok (.invokevirtual 90, 3) := by decide +kernel
theorem dX3_reachFromEdge_46 : decode cX3_reachFromEdge 46 = .ok (.iinc 1 1, 3) := by decide +kernel
theorem dX3_reachFromEdge_49 : decode cX3_reachFromEdge 49 = .ok (.goto (-21), 3) := by decide +kernel
theorem dX3_reachFromEdge_52 : decode cX3_reachFromEdge 52 = .ok (.iconst 0, 1) := by decide +kernel
theorem dX3_reachFromEdge_53 : decode cX3_reachFromEdge 53 = .ok (.istore_n 1, 1) := by decide +kernel
theorem dX3_reachFromEdge_54 : decode cX3_reachFromEdge 54 = .ok (.iload_n 1, 1) := by decide +kernel
theorem dX3_reachFromEdge_55 : decode cX3_reachFromEdge 55 = .ok (.bipush 48, 2) := by decide +kernel
theorem dX3_reachFromEdge_57 : decode cX3_reachFromEdge 57 = .ok (.if_icmp .ge 44, 3) := by decide +kernel
theorem dX3_reachFromEdge_60 : decode cX3_reachFromEdge 60 = .ok (.iload_n 1, 1) := by decide +kernel
theorem dX3_reachFromEdge_61 : decode cX3_reachFromEdge 61 = .ok (.aload_n 0, 1) := by decide +kernel
theorem dX3_reachFromEdge_62 : decode cX3_reachFromEdge 62 = .ok (.getfield 40, 3) := by decide +kernel
theorem dX3_reachFromEdge_65 : decode cX3_reachFromEdge 65 = .ok (.if_icmp .ge 36, 3) := by decide +kernel
theorem dX3_reachFromEdge_68 : decode cX3_reachFromEdge 68 = .ok (.iconst 0, 1) := by decide +kernel
theorem dX3_reachFromEdge_69 : decode cX3_reachFromEdge 69 = .ok (.istore_n 2, 1) := by decide +kernel
theorem dX3_reachFromEdge_70 : decode cX3_reachFromEdge 70 = .ok (.iload_n 2, 1) := by decide +kernel
theorem dX3_reachFromEdge_71 : decode cX3_reachFromEdge 71 = .ok (.iconst 4, 1) := by decide +kernel
theorem dX3_reachFromEdge_72 : decode cX3_reachFromEdge 72 = .ok (.if_icmp .ge 23, 3) := by decide +kernel
theorem dX3_reachFromEdge_75 : decode cX3_reachFromEdge 75 = .ok (.aload_n 0, 1) := by decide +kernel
theorem dX3_reachFromEdge_76 : decode cX3_reachFromEdge 76 = .ok (.aload_n 0, 1) := by decide +kernel
theorem dX3_reachFromEdge_77 : decode cX3_reachFromEdge 77 = .ok (.getfield 37, 3) := by decide +kernel
theorem dX3_reachFromEdge_80 : decode cX3_reachFromEdge 80 = .ok (.iload_n 1, 1) := by decide +kernel
theorem dX3_reachFromEdge_81 : decode cX3_reachFromEdge 81 = .ok (.iaload, 1) := by decide +kernel
theorem dX3_reachFromEdge_82 : decode cX3_reachFromEdge 82 = .ok (.iload_n 2, 1) := by decide +kernel
theorem dX3_reachFromEdge_83 : decode cX3_reachFromEdge 83 = .ok (.invokestatic 94, 3) := by decide +kernel
theorem dX3_reachFromEdge_86 : decode cX3_reachFromEdge 86 = .ok (.invokevirtual 90, 3) := by decide +kernel
theorem dX3_reachFromEdge_89 : decode cX3_reachFromEdge 89 = .ok (.iinc 2 1, 3) := by decide +kernel
theorem dX3_reachFromEdge_92 : decode cX3_reachFromEdge 92 = .ok (.goto (-22), 3) := by decide +kernel
theorem dX3_reachFromEdge_95 : decode cX3_reachFromEdge 95 = .ok (.iinc 1 1, 3) := by decide +kernel
theorem dX3_reachFromEdge_98 : decode cX3_reachFromEdge 98 = .ok (.goto (-44), 3) := by decide +kernel
theorem dX3_reachFromEdge_101 : decode cX3_reachFromEdge 101 = .ok (.return_, 1) := by decide +kernel
set_option maxRecDepth 20000 in
theorem ggX3_reach_X4_isPixel : GoodIn wsX3_reach wsX4_isPixel := goodIn_r _ [7] (by decide +kernel) (by decide +kernel)
set_option maxRecDepth 20000 in
theorem gX3_reach_X4_isPixel_n97 : GoodIn wsX3_reach (wsX4_isPixel) := ggX3_reach_X4_isPixel
theorem dX3_reach_0 : decode cX3_reach 0 = .ok (.iload_n 1, 1) := by decide +kernel
theorem dX3_reach_1 : decode cX3_reach 1 = .ok (.invokestatic 97, 3) := by decide +kernel
theorem dX3_reach_4 : decode cX3_reach 4 = .ok (.ifCond .eq 59, 3) := by decide +kernel
theorem dX3_reach_7 : decode cX3_reach 7 = .ok (.aload_n 0, 1) := by decide +kernel
theorem dX3_reach_8 : decode cX3_reach 8 = .ok (.getfield 9, 3) := by decide +kernel
theorem dX3_reach_11 : decode cX3_reach 11 = .ok (.iload_n 1, 1) := by decide +kernel
theorem dX3_reach_12 : decode cX3_reach 12 = .ok (.iaload, 1) := by decide +kernel
theorem dX3_reach_13 : decode cX3_reach 13 = .ok (.bipush 16, 2) := by decide +kernel
theorem dX3_reach_15 : decode cX3_reach 15 = .ok (.if_icmp .ge 48, 3) := by decide +kernel
theorem dX3_reach_18 : decode cX3_reach 18 = .ok (.aload_n 0, 1) := by decide +kernel
theorem dX3_reach_19 : decode cX3_reach 19 = .ok (.getfield 33, 3) := by decide +kernel
theorem dX3_reach_22 : decode cX3_reach 22 = .ok (.iload_n 1, 1) := by decide +kernel
theorem dX3_reach_23 : decode cX3_reach 23 = .ok (.baload, 1) := by decide +kernel
theorem dX3_reach_24 : decode cX3_reach 24 = .ok (.ifCond .ne 39, 3) := by decide +kernel
theorem dX3_reach_27 : decode cX3_reach 27 = .ok (.aload_n 0, 1) := by decide +kernel
theorem dX3_reach_28 : decode cX3_reach 28 = .ok (.getfield 40, 3) := by decide +kernel
theorem dX3_reach_31 : decode cX3_reach 31 = .ok (.bipush 48, 2) := by decide +kernel
theorem dX3_reach_33 : decode cX3_reach 33 = .ok (.if_icmp .ge 30, 3) := by decide +kernel
theorem dX3_reach_36 : decode cX3_reach 36 = .ok (.aload_n 0, 1) := by decide +kernel
theorem dX3_reach_37 : decode cX3_reach 37 = .ok (.getfield 33, 3) := by decide +kernel
theorem dX3_reach_40 : decode cX3_reach 40 = .ok (.iload_n 1, 1) := by decide +kernel
theorem dX3_reach_41 : decode cX3_reach 41 = .ok (.iconst 1, 1) := by decide +kernel
theorem dX3_reach_42 : decode cX3_reach 42 = .ok (.bastore, 1) := by decide +kernel
theorem dX3_reach_43 : decode cX3_reach 43 = .ok (.aload_n 0, 1) := by decide +kernel
theorem dX3_reach_44 : decode cX3_reach 44 = .ok (.getfield 37, 3) := by decide +kernel
theorem dX3_reach_47 : decode cX3_reach 47 = .ok (.aload_n 0, 1) := by decide +kernel
theorem dX3_reach_48 : decode cX3_reach 48 = .ok (.getfield 40, 3) := by decide +kernel
theorem dX3_reach_51 : decode cX3_reach 51 = .ok (.iload_n 1, 1) := by decide +kernel
theorem dX3_reach_52 : decode cX3_reach 52 = .ok (.iastore, 1) := by decide +kernel
theorem dX3_reach_53 : decode cX3_reach 53 = .ok (.aload_n 0, 1) := by decide +kernel
theorem dX3_reach_54 : decode cX3_reach 54 = .ok (.dup, 1) := by decide +kernel
theorem dX3_reach_55 : decode cX3_reach 55 = .ok (.getfield 40, 3) := by decide +kernel
theorem dX3_reach_58 : decode cX3_reach 58 = .ok (.iconst 1, 1) := by decide +kernel
theorem dX3_reach_59 : decode cX3_reach 59 = .ok (.iadd, 1) := by decide +kernel
theorem dX3_reach_60 : decode cX3_reach 60 = .ok (.putfield 40, 3) := by decide +kernel
theorem dX3_reach_63 : decode cX3_reach 63 = .ok (.return_, 1) := by decide +kernel
set_option maxRecDepth 20000 in
theorem ggX3_findKinds_X3_unmarkedKind : GoodIn wsX3_findKinds wsX3_unmarkedKind := goodIn_r _ [7, 8, 9, 10, 11, 12, 13, 14, 6, 15, 16, 17, 18, 19, 20, 21, 22, 23, 24, 25, 26, 27] (by decide +kernel) (by decide +kernel)
set_option maxRecDepth 20000 in
theorem gX3_findKinds_X3_unmarkedKind : GoodIn wsX3_findKinds (wsV RX3 100 RX3 yX3_unmarkedKind wsX3_unmarkedKind) := goodIn_app (goodIn_of _ (by decide +kernel)) ggX3_findKinds_X3_unmarkedKind
theorem dX3_findKinds_0 : decode cX3_findKinds 0 = .ok (.iconst 0, 1) := by decide +kernel
theorem dX3_findKinds_1 : decode cX3_findKinds 1 = .ok (.istore_n 2, 1) := by decide +kernel
theorem dX3_findKinds_2 : decode cX3_findKinds 2 = .ok (.iload_n 2, 1) := by decide +kernel
theorem dX3_findKinds_3 : decode cX3_findKinds 3 = .ok (.bipush 48, 2) := by decide +kernel
theorem dX3_findKinds_5 : decode cX3_findKinds 5 = .ok (.if_icmp .ge 33, 3) := by decide +kernel
theorem dX3_findKinds_8 : decode cX3_findKinds 8 = .ok (.aload_n 0, 1) := by decide +kernel
theorem dX3_findKinds_9 : decode cX3_findKinds 9 = .ok (.getfield 18, 3) := by decide +kernel
theorem dX3_findKinds_12 : decode cX3_findKinds 12 = .ok (.iload_n 2, 1) := by decide +kernel
theorem dX3_findKinds_13 : decode cX3_findKinds 13 = .ok (.aload_n 1, 1) := by decide +kernel
theorem dX3_findKinds_14 : decode cX3_findKinds 14 = .ok (.getfield 54, 3) := by decide +kernel
theorem dX3_findKinds_17 : decode cX3_findKinds 17 = .ok (.iload_n 2, 1) := by decide +kernel
theorem dX3_findKinds_18 : decode cX3_findKinds 18 = .ok (.baload, 1) := by decide +kernel
theorem dX3_findKinds_19 : decode cX3_findKinds 19 = .ok (.ifCond .eq 7, 3) := by decide +kernel
theorem dX3_findKinds_22 : decode cX3_findKinds 22 = .ok (.iconst 4, 1) := by decide +kernel
theorem dX3_findKinds_23 : decode cX3_findKinds 23 = .ok (.goto 8, 3) := by decide +kernel
theorem dX3_findKinds_26 : decode cX3_findKinds 26 = .ok (.aload_n 0, 1) := by decide +kernel
theorem dX3_findKinds_27 : decode cX3_findKinds 27 = .ok (.iload_n 2, 1) := by decide +kernel
theorem dX3_findKinds_28 : decode cX3_findKinds 28 = .ok (.invokevirtual 100, 3) := by decide +kernel
theorem dX3_findKinds_31 : decode cX3_findKinds 31 = .ok (.iastore, 1) := by decide +kernel
theorem dX3_findKinds_32 : decode cX3_findKinds 32 = .ok (.iinc 2 1, 3) := by decide +kernel
theorem dX3_findKinds_35 : decode cX3_findKinds 35 = .ok (.goto (-33), 3) := by decide +kernel
theorem dX3_findKinds_38 : decode cX3_findKinds 38 = .ok (.return_, 1) := by decide +kernel
set_option maxRecDepth 20000 in
theorem ggX3_unmarkedKind_X4_isPixel : GoodIn wsX3_unmarkedKind wsX4_isPixel := goodIn_r _ [4] (by decide +kernel) (by decide +kernel)
set_option maxRecDepth 20000 in
theorem gX3_unmarkedKind_X4_isPixel_n97 : GoodIn wsX3_unmarkedKind (wsX4_isPixel) := ggX3_unmarkedKind_X4_isPixel
set_option maxRecDepth 20000 in
theorem ggX3_unmarkedKind_X3_isOneBeside : GoodIn wsX3_unmarkedKind wsX3_isOneBeside := goodIn_r _ [9, 1, 10, 3, 11, 2, 4, 12, 13, 14, 15, 16, 17, 18, 19, 20, 21] (by decide +kernel) (by decide +kernel)
set_option maxRecDepth 20000 in
theorem gX3_unmarkedKind_X3_isOneBeside : GoodIn wsX3_unmarkedKind (wsV RX3 103 RX3 yX3_isOneBeside wsX3_isOneBeside) := goodIn_app (goodIn_of _ (by decide +kernel)) ggX3_unmarkedKind_X3_isOneBeside
theorem dX3_unmarkedKind_0 : decode cX3_unmarkedKind 0 = .ok (.iload_n 1, 1) := by decide +kernel
theorem dX3_unmarkedKind_1 : decode cX3_unmarkedKind 1 = .ok (.invokestatic 97, 3) := by decide +kernel
theorem dX3_unmarkedKind_4 : decode cX3_unmarkedKind 4 = .ok (.ifCond .ne 5, 3) := by decide +kernel
theorem dX3_unmarkedKind_7 : decode cX3_unmarkedKind 7 = .ok (.iconst (-1), 1) := by decide +kernel
theorem dX3_unmarkedKind_8 : decode cX3_unmarkedKind 8 = .ok (.ireturn, 1) := by decide +kernel
theorem dX3_unmarkedKind_9 : decode cX3_unmarkedKind 9 = .ok (.aload_n 0, 1) := by decide +kernel
theorem dX3_unmarkedKind_10 : decode cX3_unmarkedKind 10 = .ok (.getfield 15, 3) := by decide +kernel
theorem dX3_unmarkedKind_13 : decode cX3_unmarkedKind 13 = .ok (.iload_n 1, 1) := by decide +kernel
theorem dX3_unmarkedKind_14 : decode cX3_unmarkedKind 14 = .ok (.iaload, 1) := by decide +kernel
theorem dX3_unmarkedKind_15 : decode cX3_unmarkedKind 15 = .ok (.ifCond .ne 5, 3) := by decide +kernel
theorem dX3_unmarkedKind_18 : decode cX3_unmarkedKind 18 = .ok (.iconst 0, 1) := by decide +kernel
theorem dX3_unmarkedKind_19 : decode cX3_unmarkedKind 19 = .ok (.ireturn, 1) := by decide +kernel
theorem dX3_unmarkedKind_20 : decode cX3_unmarkedKind 20 = .ok (.aload_n 0, 1) := by decide +kernel
theorem dX3_unmarkedKind_21 : decode cX3_unmarkedKind 21 = .ok (.getfield 15, 3) := by decide +kernel
theorem dX3_unmarkedKind_24 : decode cX3_unmarkedKind 24 = .ok (.iload_n 1, 1) := by decide +kernel
theorem dX3_unmarkedKind_25 : decode cX3_unmarkedKind 25 = .ok (.iaload, 1) := by decide +kernel
theorem dX3_unmarkedKind_26 : decode cX3_unmarkedKind 26 = .ok (.bipush 16, 2) := by decide +kernel
theorem dX3_unmarkedKind_28 : decode cX3_unmarkedKind 28 = .ok (.if_icmp .ne 5, 3) := by decide +kernel
theorem dX3_unmarkedKind_31 : decode cX3_unmarkedKind 31 = .ok (.iconst 3, 1) := by decide +kernel
theorem dX3_unmarkedKind_32 : decode cX3_unmarkedKind 32 = .ok (.ireturn, 1) := by decide +kernel
theorem dX3_unmarkedKind_33 : decode cX3_unmarkedKind 33 = .ok (.aload_n 0, 1) := by decide +kernel
theorem dX3_unmarkedKind_34 : decode cX3_unmarkedKind 34 = .ok (.iload_n 1, 1) := by decide +kernel
theorem dX3_unmarkedKind_35 : decode cX3_unmarkedKind 35 = .ok (.bipush 16, 2) := by decide +kernel
theorem dX3_unmarkedKind_37 : decode cX3_unmarkedKind 37 = .ok (.invokevirtual 103, 3) := by decide +kernel
theorem dX3_unmarkedKind_40 : decode cX3_unmarkedKind 40 = .ok (.ifCond .eq 16, 3) := by decide +kernel
theorem dX3_unmarkedKind_43 : decode cX3_unmarkedKind 43 = .ok (.aload_n 0, 1) := by decide +kernel
theorem dX3_unmarkedKind_44 : decode cX3_unmarkedKind 44 = .ok (.iload_n 1, 1) := by decide +kernel
theorem dX3_unmarkedKind_45 : decode cX3_unmarkedKind 45 = .ok (.iconst 0, 1) := by decide +kernel
theorem dX3_unmarkedKind_46 : decode cX3_unmarkedKind 46 = .ok (.invokevirtual 103, 3) := by decide +kernel
theorem dX3_unmarkedKind_49 : decode cX3_unmarkedKind 49 = .ok (.ifCond .eq 7, 3) := by decide +kernel
theorem dX3_unmarkedKind_52 : decode cX3_unmarkedKind 52 = .ok (.iconst 2, 1) := by decide +kernel
theorem dX3_unmarkedKind_53 : decode cX3_unmarkedKind 53 = .ok (.goto 4, 3) := by decide +kernel
theorem dX3_unmarkedKind_56 : decode cX3_unmarkedKind 56 = .ok (.iconst 1, 1) := by decide +kernel
theorem dX3_unmarkedKind_57 : decode cX3_unmarkedKind 57 = .ok (.ireturn, 1) := by decide +kernel
set_option maxRecDepth 20000 in
theorem ggX3_isOneBeside_X4_beside : GoodIn wsX3_isOneBeside wsX4_beside := goodIn_r _ [4] (by decide +kernel) (by decide +kernel)
set_option maxRecDepth 20000 in
theorem gX3_isOneBeside_X4_beside_n94 : GoodIn wsX3_isOneBeside (wsX4_beside) := ggX3_isOneBeside_X4_beside
set_option maxRecDepth 20000 in
theorem ggX3_isOneBeside_X4_isPixel : GoodIn wsX3_isOneBeside wsX4_isPixel := goodIn_r _ [6] (by decide +kernel) (by decide +kernel)
set_option maxRecDepth 20000 in
theorem gX3_isOneBeside_X4_isPixel_n97 : GoodIn wsX3_isOneBeside (wsX4_isPixel) := ggX3_isOneBeside_X4_isPixel
theorem dX3_isOneBeside_0 : decode cX3_isOneBeside 0 = .ok (.iconst 0, 1) := by decide +kernel
theorem dX3_isOneBeside_1 : decode cX3_isOneBeside 1 = .ok (.istore_n 3, 1) := by decide +kernel
theorem dX3_isOneBeside_2 : decode cX3_isOneBeside 2 = .ok (.iload_n 3, 1) := by decide +kernel
theorem dX3_isOneBeside_3 : decode cX3_isOneBeside 3 = .ok (.iconst 4, 1) := by decide +kernel
theorem dX3_isOneBeside_4 : decode cX3_isOneBeside 4 = .ok (.if_icmp .ge 37, 3) := by decide +kernel
theorem dX3_isOneBeside_7 : decode cX3_isOneBeside 7 = .ok (.iload_n 1, 1) := by decide +kernel
theorem dX3_isOneBeside_8 : decode cX3_isOneBeside 8 = .ok (.iload_n 3, 1) := by decide +kernel
theorem dX3_isOneBeside_9 : decode cX3_isOneBeside 9 = .ok (.invokestatic 94, 3) := by decide +kernel
theorem dX3_isOneBeside_12 : decode cX3_isOneBeside 12 = .ok (.istore 4, 2) := by decide +kernel
theorem dX3_isOneBeside_14 : decode cX3_isOneBeside 14 = .ok (.iload 4, 2) := by decide +kernel
theorem dX3_isOneBeside_16 : decode cX3_isOneBeside 16 = .ok (.invokestatic 97, 3) := by decide +kernel
theorem dX3_isOneBeside_19 : decode cX3_isOneBeside 19 = .ok (.ifCond .eq 16, 3) := by decide +kernel
theorem dX3_isOneBeside_22 : decode cX3_isOneBeside 22 = .ok (.aload_n 0, 1) := by decide +kernel
theorem dX3_isOneBeside_23 : decode cX3_isOneBeside 23 = .ok (.getfield 15, 3) := by decide +kernel
theorem dX3_isOneBeside_26 : decode cX3_isOneBeside 26 = .ok (.iload 4, 2) := by decide +kernel
theorem dX3_isOneBeside_28 : decode cX3_isOneBeside 28 = .ok (.iaload, 1) := by decide +kernel
theorem dX3_isOneBeside_29 : decode cX3_isOneBeside 29 = .ok (.iload_n 2, 1) := by decide +kernel
theorem dX3_isOneBeside_30 : decode cX3_isOneBeside 30 = .ok (.if_icmp .ne 5, 3) := by decide +kernel
theorem dX3_isOneBeside_33 : decode cX3_isOneBeside 33 = .ok (.iconst 1, 1) := by decide +kernel
theorem dX3_isOneBeside_34 : decode cX3_isOneBeside 34 = .ok (.ireturn, 1) := by decide +kernel
theorem dX3_isOneBeside_35 : decode cX3_isOneBeside 35 = .ok (.iinc 3 1, 3) := by decide +kernel
theorem dX3_isOneBeside_38 : decode cX3_isOneBeside 38 = .ok (.goto (-36), 3) := by decide +kernel
theorem dX3_isOneBeside_41 : decode cX3_isOneBeside 41 = .ok (.iconst 0, 1) := by decide +kernel
theorem dX3_isOneBeside_42 : decode cX3_isOneBeside 42 = .ok (.ireturn, 1) := by decide +kernel
set_option maxRecDepth 20000 in
theorem ggX3_compose_X4_mainPart : GoodIn wsX3_compose wsX4_mainPart := goodIn_r _ [12, 13, 14, 11, 15, 16, 17, 18] (by decide +kernel) (by decide +kernel)
set_option maxRecDepth 20000 in
theorem gX3_compose_X4_mainPart_n62 : GoodIn wsX3_compose (wsX4_mainPart) := ggX3_compose_X4_mainPart
set_option maxRecDepth 20000 in
theorem ggX3_compose_X4_spillIn : GoodIn wsX3_compose wsX4_spillIn := goodIn_r _ [20, 21, 22, 23, 24, 13, 14, 11, 15, 16, 17, 18] (by decide +kernel) (by decide +kernel)
set_option maxRecDepth 20000 in
theorem gX3_compose_X4_spillIn_n66 : GoodIn wsX3_compose (wsX4_spillIn) := ggX3_compose_X4_spillIn
set_option maxRecDepth 20000 in
theorem ggX3_compose_X3_share : GoodIn wsX3_compose wsX3_share := goodIn_r _ [28, 29, 32, 33, 34, 35, 36] (by decide +kernel) (by decide +kernel)
set_option maxRecDepth 20000 in
theorem gX3_compose_X3_share : GoodIn wsX3_compose (va_wsS RX3 110 yX3_share wsX3_share) := goodIn_app (goodIn_of _ (by decide +kernel)) ggX3_compose_X3_share
set_option maxRecDepth 20000 in
theorem ggX3_compose_X4_partShift : GoodIn wsX3_compose wsX4_partShift := goodIn_r _ [18] (by decide +kernel) (by decide +kernel)
set_option maxRecDepth 20000 in
theorem gX3_compose_X4_partShift_n114 : GoodIn wsX3_compose (wsX4_partShift) := ggX3_compose_X4_partShift
set_option maxRecDepth 20000 in
theorem ggX3_compose_X4_composedColour : GoodIn wsX3_compose wsX4_composedColour := goodIn_r _ [31, 13, 14, 11, 15, 16, 17, 18] (by decide +kernel) (by decide +kernel)
set_option maxRecDepth 20000 in
theorem gX3_compose_X4_composedColour_n120 : GoodIn wsX3_compose (wsX4_composedColour) := ggX3_compose_X4_composedColour
theorem dX3_compose_0 : decode cX3_compose 0 = .ok (.aload_n 1, 1) := by decide +kernel
theorem dX3_compose_1 : decode cX3_compose 1 = .ok (.getfield 59, 3) := by decide +kernel
theorem dX3_compose_4 : decode cX3_compose 4 = .ok (.invokestatic 62, 3) := by decide +kernel
theorem dX3_compose_7 : decode cX3_compose 7 = .ok (.istore_n 2, 1) := by decide +kernel
theorem dX3_compose_8 : decode cX3_compose 8 = .ok (.iconst 0, 1) := by decide +kernel
theorem dX3_compose_9 : decode cX3_compose 9 = .ok (.istore_n 3, 1) := by decide +kernel
theorem dX3_compose_10 : decode cX3_compose 10 = .ok (.iload_n 3, 1) := by decide +kernel
theorem dX3_compose_11 : decode cX3_compose 11 = .ok (.bipush 48, 2) := by decide +kernel
theorem dX3_compose_13 : decode cX3_compose 13 = .ok (.if_icmp .ge 102, 3) := by decide +kernel
theorem dX3_compose_16 : decode cX3_compose 16 = .ok (.aload_n 0, 1) := by decide +kernel
theorem dX3_compose_17 : decode cX3_compose 17 = .ok (.getfield 21, 3) := by decide +kernel
theorem dX3_compose_20 : decode cX3_compose 20 = .ok (.iload_n 3, 1) := by decide +kernel
theorem dX3_compose_21 : decode cX3_compose 21 = .ok (.aload_n 1, 1) := by decide +kernel
theorem dX3_compose_22 : decode cX3_compose 22 = .ok (.getfield 107, 3) := by decide +kernel
theorem dX3_compose_25 : decode cX3_compose 25 = .ok (.iload_n 3, 1) := by decide +kernel
theorem dX3_compose_26 : decode cX3_compose 26 = .ok (.iaload, 1) := by decide +kernel
theorem dX3_compose_27 : decode cX3_compose 27 = .ok (.iload_n 2, 1) := by decide +kernel
theorem dX3_compose_28 : decode cX3_compose 28 = .ok (.invokestatic 66, 3) := by decide +kernel
theorem dX3_compose_31 : decode cX3_compose 31 = .ok (.iastore, 1) := by decide +kernel
theorem dX3_compose_32 : decode cX3_compose 32 = .ok (.aload_n 0, 1) := by decide +kernel
theorem dX3_compose_33 : decode cX3_compose 33 = .ok (.getfield 24, 3) := by decide +kernel
theorem dX3_compose_36 : decode cX3_compose 36 = .ok (.iload_n 3, 1) := by decide +kernel
theorem dX3_compose_37 : decode cX3_compose 37 = .ok (.aload_n 0, 1) := by decide +kernel
theorem dX3_compose_38 : decode cX3_compose 38 = .ok (.getfield 21, 3) := by decide +kernel
theorem dX3_compose_41 : decode cX3_compose 41 = .ok (.iload_n 3, 1) := by decide +kernel
theorem dX3_compose_42 : decode cX3_compose 42 = .ok (.iaload, 1) := by decide +kernel
theorem dX3_compose_43 : decode cX3_compose 43 = .ok (.aload_n 1, 1) := by decide +kernel
theorem dX3_compose_44 : decode cX3_compose 44 = .ok (.aload_n 0, 1) := by decide +kernel
theorem dX3_compose_45 : decode cX3_compose 45 = .ok (.getfield 18, 3) := by decide +kernel
theorem dX3_compose_48 : decode cX3_compose 48 = .ok (.iload_n 3, 1) := by decide +kernel
theorem dX3_compose_49 : decode cX3_compose 49 = .ok (.iaload, 1) := by decide +kernel
theorem dX3_compose_50 : decode cX3_compose 50 = .ok (.invokestatic 110, 3) := by decide +kernel
theorem dX3_compose_53 : decode cX3_compose 53 = .ok (.imul, 1) := by decide +kernel
theorem dX3_compose_54 : decode cX3_compose 54 = .ok (.bipush 16, 2) := by decide +kernel
theorem dX3_compose_56 : decode cX3_compose 56 = .ok (.idiv, 1) := by decide +kernel
theorem dX3_compose_57 : decode cX3_compose 57 = .ok (.iastore, 1) := by decide +kernel
theorem dX3_compose_58 : decode cX3_compose 58 = .ok (.aload_n 0, 1) := by decide +kernel
theorem dX3_compose_59 : decode cX3_compose 59 = .ok (.getfield 27, 3) := by decide +kernel
theorem dX3_compose_62 : decode cX3_compose 62 = .ok (.iload_n 3, 1) := by decide +kernel
theorem dX3_compose_63 : decode cX3_compose 63 = .ok (.aload_n 1, 1) := by decide +kernel
theorem dX3_compose_64 : decode cX3_compose 64 = .ok (.getfield 107, 3) := by decide +kernel
theorem dX3_compose_67 : decode cX3_compose 67 = .ok (.iload_n 3, 1) := by decide +kernel
theorem dX3_compose_68 : decode cX3_compose 68 = .ok (.iaload, 1) := by decide +kernel
theorem dX3_compose_69 : decode cX3_compose 69 = .ok (.aload_n 0, 1) := by decide +kernel
theorem dX3_compose_70 : decode cX3_compose 70 = .ok (.getfield 24, 3) := by decide +kernel
theorem dX3_compose_73 : decode cX3_compose 73 = .ok (.iload_n 3, 1) := by decide +kernel
theorem dX3_compose_74 : decode cX3_compose 74 = .ok (.iaload, 1) := by decide +kernel
theorem dX3_compose_75 : decode cX3_compose 75 = .ok (.iload_n 2, 1) := by decide +kernel
theorem dX3_compose_76 : decode cX3_compose 76 = .ok (.invokestatic 114, 3) := by decide +kernel
theorem dX3_compose_79 : decode cX3_compose 79 = .ok (.ishl, 1) := by decide +kernel
theorem dX3_compose_80 : decode cX3_compose 80 = .ok (.isub, 1) := by decide +kernel
theorem dX3_compose_81 : decode cX3_compose 81 = .ok (.iastore, 1) := by decide +kernel
theorem dX3_compose_82 : decode cX3_compose 82 = .ok (.aload_n 0, 1) := by decide +kernel
theorem dX3_compose_83 : decode cX3_compose 83 = .ok (.getfield 30, 3) := by decide +kernel
theorem dX3_compose_86 : decode cX3_compose 86 = .ok (.iload_n 3, 1) := by decide +kernel
theorem dX3_compose_87 : decode cX3_compose 87 = .ok (.aload_n 0, 1) := by decide +kernel
theorem dX3_compose_88 : decode cX3_compose 88 = .ok (.getfield 27, 3) := by decide +kernel
theorem dX3_compose_91 : decode cX3_compose 91 = .ok (.iload_n 3, 1) := by decide +kernel
theorem dX3_compose_92 : decode cX3_compose 92 = .ok (.iaload, 1) := by decide +kernel
theorem dX3_compose_93 : decode cX3_compose 93 = .ok (.aload_n 1, 1) := by decide +kernel
theorem dX3_compose_94 : decode cX3_compose 94 = .ok (.getfield 117, 3) := by decide +kernel
theorem dX3_compose_97 : decode cX3_compose 97 = .ok (.iload_n 3, 1) := by decide +kernel
theorem dX3_compose_98 : decode cX3_compose 98 = .ok (.iaload, 1) := by decide +kernel
theorem dX3_compose_99 : decode cX3_compose 99 = .ok (.aload_n 0, 1) := by decide +kernel
theorem dX3_compose_100 : decode cX3_compose 100 = .ok (.getfield 15, 3) := by decide +kernel
theorem dX3_compose_103 : decode cX3_compose 103 = .ok (.iload_n 3, 1) := by decide +kernel
theorem dX3_compose_104 : decode cX3_compose 104 = .ok (.iaload, 1) := by decide +kernel
theorem dX3_compose_105 : decode cX3_compose 105 = .ok (.invokestatic 120, 3) := by decide +kernel
theorem dX3_compose_108 : decode cX3_compose 108 = .ok (.iastore, 1) := by decide +kernel
theorem dX3_compose_109 : decode cX3_compose 109 = .ok (.iinc 3 1, 3) := by decide +kernel
theorem dX3_compose_112 : decode cX3_compose 112 = .ok (.goto (-102), 3) := by decide +kernel
theorem dX3_compose_115 : decode cX3_compose 115 = .ok (.return_, 1) := by decide +kernel
theorem dX3_share_0 : decode cX3_share 0 = .ok (.iload_n 1, 1) := by decide +kernel
theorem dX3_share_1 : decode cX3_share 1 = .ok (.tableswitch 52 1 4 #[31, 38, 31, 45], 31) := by decide +kernel
theorem dX3_share_32 : decode cX3_share 32 = .ok (.aload_n 0, 1) := by decide +kernel
theorem dX3_share_33 : decode cX3_share 33 = .ok (.getfield 70, 3) := by decide +kernel
theorem dX3_share_36 : decode cX3_share 36 = .ok (.iconst 2, 1) := by decide +kernel
theorem dX3_share_37 : decode cX3_share 37 = .ok (.iaload, 1) := by decide +kernel
theorem dX3_share_38 : decode cX3_share 38 = .ok (.ireturn, 1) := by decide +kernel
theorem dX3_share_39 : decode cX3_share 39 = .ok (.aload_n 0, 1) := by decide +kernel
theorem dX3_share_40 : decode cX3_share 40 = .ok (.getfield 70, 3) := by decide +kernel
theorem dX3_share_43 : decode cX3_share 43 = .ok (.iconst 3, 1) := by decide +kernel
theorem dX3_share_44 : decode cX3_share 44 = .ok (.iaload, 1) := by decide +kernel
theorem dX3_share_45 : decode cX3_share 45 = .ok (.ireturn, 1) := by decide +kernel
theorem dX3_share_46 : decode cX3_share 46 = .ok (.aload_n 0, 1) := by decide +kernel
theorem dX3_share_47 : decode cX3_share 47 = .ok (.getfield 70, 3) := by decide +kernel
theorem dX3_share_50 : decode cX3_share 50 = .ok (.iconst 4, 1) := by decide +kernel
theorem dX3_share_51 : decode cX3_share 51 = .ok (.iaload, 1) := by decide +kernel
theorem dX3_share_52 : decode cX3_share 52 = .ok (.ireturn, 1) := by decide +kernel
theorem dX3_share_53 : decode cX3_share 53 = .ok (.iconst 0, 1) := by decide +kernel
theorem dX3_share_54 : decode cX3_share 54 = .ok (.ireturn, 1) := by decide +kernel
set_option maxRecDepth 20000 in
theorem ggX4_init_X2_init : GoodIn wsX4_init wsX2_init := goodIn_r _ [25, 26, 2, 3, 27, 28, 29, 30, 31, 32, 33, 34, 35, 36, 37, 65, 66, 67, 68, 69] (by decide +kernel) (by decide +kernel)
set_option maxRecDepth 20000 in
theorem gX4_init_X2_init : GoodIn wsX4_init (wsX2_init) := ggX4_init_X2_init
set_option maxRecDepth 20000 in
theorem ggX4_init_X3_init : GoodIn wsX4_init wsX3_init := goodIn_r _ [39, 40, 2, 3, 27, 41, 42, 43, 44, 45, 46, 47, 31, 48, 49, 50, 77, 78, 79, 80, 81, 82, 83, 84, 85, 86] (by decide +kernel) (by decide +kernel)
set_option maxRecDepth 20000 in
theorem gX4_init_X3_init_n21 : GoodIn wsX4_init (wsX3_init) := ggX4_init_X3_init
set_option maxRecDepth 20000 in
theorem ggX4_init_X1_init : GoodIn wsX4_init wsX1_init := goodIn_r _ [52, 53, 2, 3, 27, 54, 55, 87, 88] (by decide +kernel) (by decide +kernel)
set_option maxRecDepth 20000 in
theorem gX4_init_X1_init_n31 : GoodIn wsX4_init (wsX1_init) := ggX4_init_X1_init
set_option maxRecDepth 20000 in
theorem ggX4_init_X0_init : GoodIn wsX4_init wsX0_init := goodIn_r _ [58, 59, 2, 3, 60, 61, 62, 63, 5, 6, 64, 24, 25, 26, 27, 28, 29, 30, 31, 32, 33, 34, 35, 36, 37, 89, 90, 91, 65, 66, 67, 68, 69] (by decide +kernel) (by decide +kernel)
set_option maxRecDepth 20000 in
theorem gX4_init_X0_init : GoodIn wsX4_init (wsX0_init) := ggX4_init_X0_init
theorem dX4_init_0 : decode cX4_init 0 = .ok (.aload_n 0, 1) := by decide +kernel
theorem dX4_init_1 : decode cX4_init 1 = .ok (.invokespecial 1, 3) := by decide +kernel
theorem dX4_init_4 : decode cX4_init 4 = .ok (.aload_n 0, 1) := by decide +kernel
theorem dX4_init_5 : decode cX4_init 5 = .ok (.new 7, 3) := by decide +kernel
theorem dX4_init_8 : decode cX4_init 8 = .ok (.dup, 1) := by decide +kernel
theorem dX4_init_9 : decode cX4_init 9 = .ok (.invokespecial 9, 3) := by decide +kernel
theorem dX4_init_12 : decode cX4_init 12 = .ok (.putfield 10, 3) := by decide +kernel
theorem dX4_init_15 : decode cX4_init 15 = .ok (.aload_n 0, 1) := by decide +kernel
theorem dX4_init_16 : decode cX4_init 16 = .ok (.new 7, 3) := by decide +kernel
theorem dX4_init_19 : decode cX4_init 19 = .ok (.dup, 1) := by decide +kernel
theorem dX4_init_20 : decode cX4_init 20 = .ok (.invokespecial 9, 3) := by decide +kernel
theorem dX4_init_23 : decode cX4_init 23 = .ok (.putfield 16, 3) := by decide +kernel
theorem dX4_init_26 : decode cX4_init 26 = .ok (.aload_n 0, 1) := by decide +kernel
theorem dX4_init_27 : decode cX4_init 27 = .ok (.new 19, 3) := by decide +kernel
theorem dX4_init_30 : decode cX4_init 30 = .ok (.dup, 1) := by decide +kernel
theorem dX4_init_31 : decode cX4_init 31 = .ok (.invokespecial 21, 3) := by decide +kernel
theorem dX4_init_34 : decode cX4_init 34 = .ok (.putfield 22, 3) := by decide +kernel
theorem dX4_init_37 : decode cX4_init 37 = .ok (.aload_n 0, 1) := by decide +kernel
theorem dX4_init_38 : decode cX4_init 38 = .ok (.new 19, 3) := by decide +kernel
theorem dX4_init_41 : decode cX4_init 41 = .ok (.dup, 1) := by decide +kernel
theorem dX4_init_42 : decode cX4_init 42 = .ok (.invokespecial 21, 3) := by decide +kernel
theorem dX4_init_45 : decode cX4_init 45 = .ok (.putfield 26, 3) := by decide +kernel
theorem dX4_init_48 : decode cX4_init 48 = .ok (.aload_n 0, 1) := by decide +kernel
theorem dX4_init_49 : decode cX4_init 49 = .ok (.new 29, 3) := by decide +kernel
theorem dX4_init_52 : decode cX4_init 52 = .ok (.dup, 1) := by decide +kernel
theorem dX4_init_53 : decode cX4_init 53 = .ok (.invokespecial 31, 3) := by decide +kernel
theorem dX4_init_56 : decode cX4_init 56 = .ok (.putfield 32, 3) := by decide +kernel
theorem dX4_init_59 : decode cX4_init 59 = .ok (.aload_n 0, 1) := by decide +kernel
theorem dX4_init_60 : decode cX4_init 60 = .ok (.new 36, 3) := by decide +kernel
theorem dX4_init_63 : decode cX4_init 63 = .ok (.dup, 1) := by decide +kernel
theorem dX4_init_64 : decode cX4_init 64 = .ok (.invokespecial 38, 3) := by decide +kernel
theorem dX4_init_67 : decode cX4_init 67 = .ok (.putfield 39, 3) := by decide +kernel
theorem dX4_init_70 : decode cX4_init 70 = .ok (.aload_n 0, 1) := by decide +kernel
theorem dX4_init_71 : decode cX4_init 71 = .ok (.iconst 2, 1) := by decide +kernel
theorem dX4_init_72 : decode cX4_init 72 = .ok (.anewarray 7, 3) := by decide +kernel
theorem dX4_init_75 : decode cX4_init 75 = .ok (.putfield 43, 3) := by decide +kernel
theorem dX4_init_78 : decode cX4_init 78 = .ok (.return_, 1) := by decide +kernel
set_option maxRecDepth 20000 in
theorem ggX4_set_X4_errorOfSetting : GoodIn wsX4_set wsX4_errorOfSetting := goodIn_r _ [7, 8, 2, 9, 10, 11, 6, 12, 43, 44, 45, 46, 47, 48, 49, 50, 51, 52, 53, 54] (by decide +kernel) (by decide +kernel)
set_option maxRecDepth 20000 in
theorem gX4_set_X4_errorOfSetting : GoodIn wsX4_set (wsV RX4 47 RX4 yX4_errorOfSetting wsX4_errorOfSetting) := goodIn_app (goodIn_of _ (by decide +kernel)) ggX4_set_X4_errorOfSetting
set_option maxRecDepth 20000 in
theorem ggX4_set_X0_remember : GoodIn wsX4_set wsX0_remember := goodIn_r _ [17, 18, 19, 20, 21, 22, 23, 24, 25, 26, 27, 28, 29, 30, 31, 32, 33, 34, 35, 36, 37, 38, 55, 56, 57, 50, 51, 52, 53, 54] (by decide +kernel) (by decide +kernel)
set_option maxRecDepth 20000 in
theorem gX4_set_X0_remember : GoodIn wsX4_set (wsV RX4 51 RX0 yX0_remember wsX0_remember) := goodIn_app (goodIn_of _ (by decide +kernel)) ggX4_set_X0_remember
set_option maxRecDepth 20000 in
theorem ggX4_set_X2_changeSetting : GoodIn wsX4_set wsX2_changeSetting := goodIn_r _ [42, 30, 11, 6, 12, 50, 51, 52, 53, 54] (by decide +kernel) (by decide +kernel)
set_option maxRecDepth 20000 in
theorem gX4_set_X2_changeSetting : GoodIn wsX4_set (wsV RX4 55 RX2 yX2_changeSetting wsX2_changeSetting) := goodIn_app (goodIn_of _ (by decide +kernel)) ggX4_set_X2_changeSetting
theorem dX4_set_0 : decode cX4_set 0 = .ok (.aload_n 0, 1) := by decide +kernel
theorem dX4_set_1 : decode cX4_set 1 = .ok (.iload_n 1, 1) := by decide +kernel
theorem dX4_set_2 : decode cX4_set 2 = .ok (.iload_n 2, 1) := by decide +kernel
theorem dX4_set_3 : decode cX4_set 3 = .ok (.invokevirtual 47, 3) := by decide +kernel
theorem dX4_set_6 : decode cX4_set 6 = .ok (.istore_n 3, 1) := by decide +kernel
theorem dX4_set_7 : decode cX4_set 7 = .ok (.iload_n 3, 1) := by decide +kernel
theorem dX4_set_8 : decode cX4_set 8 = .ok (.ifCond .eq 5, 3) := by decide +kernel
theorem dX4_set_11 : decode cX4_set 11 = .ok (.iload_n 3, 1) := by decide +kernel
theorem dX4_set_12 : decode cX4_set 12 = .ok (.ireturn, 1) := by decide +kernel
theorem dX4_set_13 : decode cX4_set 13 = .ok (.aload_n 0, 1) := by decide +kernel
theorem dX4_set_14 : decode cX4_set 14 = .ok (.getfield 39, 3) := by decide +kernel
theorem dX4_set_17 : decode cX4_set 17 = .ok (.aload_n 0, 1) := by decide +kernel
theorem dX4_set_18 : decode cX4_set 18 = .ok (.getfield 10, 3) := by decide +kernel
theorem dX4_set_21 : decode cX4_set 21 = .ok (.invokevirtual 51, 3) := by decide +kernel
theorem dX4_set_24 : decode cX4_set 24 = .ok (.aload_n 0, 1) := by decide +kernel
theorem dX4_set_25 : decode cX4_set 25 = .ok (.getfield 10, 3) := by decide +kernel
theorem dX4_set_28 : decode cX4_set 28 = .ok (.iload_n 1, 1) := by decide +kernel
theorem dX4_set_29 : decode cX4_set 29 = .ok (.iload_n 2, 1) := by decide +kernel
theorem dX4_set_30 : decode cX4_set 30 = .ok (.invokevirtual 55, 3) := by decide +kernel
theorem dX4_set_33 : decode cX4_set 33 = .ok (.ireturn, 1) := by decide +kernel
set_option maxRecDepth 20000 in
theorem ggX4_screen_X4_isColour : GoodIn wsX4_screen wsX4_isColour := goodIn_r _ [7] (by decide +kernel) (by decide +kernel)
set_option maxRecDepth 20000 in
theorem gX4_screen_X4_isColour : GoodIn wsX4_screen (va_wsS RX4 58 yX4_isColour wsX4_isColour) := goodIn_app (goodIn_of _ (by decide +kernel)) ggX4_screen_X4_isColour
set_option maxRecDepth 20000 in
theorem ggX4_screen_X0_remember : GoodIn wsX4_screen wsX0_remember := goodIn_r _ [12, 13, 14, 15, 16, 17, 18, 19, 20, 21, 22, 23, 24, 25, 26, 27, 28, 29, 30, 31, 32, 33, 46, 47, 48, 41, 42, 43, 44, 45] (by decide +kernel) (by decide +kernel)
set_option maxRecDepth 20000 in
theorem gX4_screen_X0_remember : GoodIn wsX4_screen (wsV RX4 51 RX0 yX0_remember wsX0_remember) := goodIn_app (goodIn_of _ (by decide +kernel)) ggX4_screen_X0_remember
theorem dX4_screen_0 : decode cX4_screen 0 = .ok (.iload_n 1, 1) := by decide +kernel
theorem dX4_screen_1 : decode cX4_screen 1 = .ok (.invokestatic 58, 3) := by decide +kernel
theorem dX4_screen_4 : decode cX4_screen 4 = .ok (.ifCond .ne 6, 3) := by decide +kernel
theorem dX4_screen_7 : decode cX4_screen 7 = .ok (.bipush (-2), 2) := by decide +kernel
theorem dX4_screen_9 : decode cX4_screen 9 = .ok (.ireturn, 1) := by decide +kernel
theorem dX4_screen_10 : decode cX4_screen 10 = .ok (.aload_n 0, 1) := by decide +kernel
theorem dX4_screen_11 : decode cX4_screen 11 = .ok (.getfield 39, 3) := by decide +kernel
theorem dX4_screen_14 : decode cX4_screen 14 = .ok (.aload_n 0, 1) := by decide +kernel
theorem dX4_screen_15 : decode cX4_screen 15 = .ok (.getfield 10, 3) := by decide +kernel
theorem dX4_screen_18 : decode cX4_screen 18 = .ok (.invokevirtual 51, 3) := by decide +kernel
theorem dX4_screen_21 : decode cX4_screen 21 = .ok (.aload_n 0, 1) := by decide +kernel
theorem dX4_screen_22 : decode cX4_screen 22 = .ok (.getfield 10, 3) := by decide +kernel
theorem dX4_screen_25 : decode cX4_screen 25 = .ok (.getfield 62, 3) := by decide +kernel
theorem dX4_screen_28 : decode cX4_screen 28 = .ok (.istore_n 2, 1) := by decide +kernel
theorem dX4_screen_29 : decode cX4_screen 29 = .ok (.aload_n 0, 1) := by decide +kernel
theorem dX4_screen_30 : decode cX4_screen 30 = .ok (.getfield 10, 3) := by decide +kernel
theorem dX4_screen_33 : decode cX4_screen 33 = .ok (.iload_n 1, 1) := by decide +kernel
theorem dX4_screen_34 : decode cX4_screen 34 = .ok (.putfield 62, 3) := by decide +kernel
theorem dX4_screen_37 : decode cX4_screen 37 = .ok (.iload_n 2, 1) := by decide +kernel
theorem dX4_screen_38 : decode cX4_screen 38 = .ok (.ireturn, 1) := by decide +kernel
set_option maxRecDepth 20000 in
theorem ggX4_paint_X4_isPixel : GoodIn wsX4_paint wsX4_isPixel := goodIn_r _ [6] (by decide +kernel) (by decide +kernel)
set_option maxRecDepth 20000 in
theorem gX4_paint_X4_isPixel : GoodIn wsX4_paint (va_wsS RX4 66 yX4_isPixel wsX4_isPixel) := goodIn_app (goodIn_of _ (by decide +kernel)) ggX4_paint_X4_isPixel
set_option maxRecDepth 20000 in
theorem ggX4_paint_X4_isColour : GoodIn wsX4_paint wsX4_isColour := goodIn_r _ [9] (by decide +kernel) (by decide +kernel)
set_option maxRecDepth 20000 in
theorem gX4_paint_X4_isColour : GoodIn wsX4_paint (va_wsS RX4 58 yX4_isColour wsX4_isColour) := goodIn_app (goodIn_of _ (by decide +kernel)) ggX4_paint_X4_isColour
set_option maxRecDepth 20000 in
theorem ggX4_paint_X0_remember : GoodIn wsX4_paint wsX0_remember := goodIn_r _ [14, 15, 16, 17, 18, 19, 20, 21, 22, 23, 24, 25, 26, 27, 28, 29, 30, 31, 32, 33, 34, 35, 47, 48, 49, 50, 51, 52, 53, 54] (by decide +kernel) (by decide +kernel)
set_option maxRecDepth 20000 in
theorem gX4_paint_X0_remember : GoodIn wsX4_paint (wsV RX4 51 RX0 yX0_remember wsX0_remember) := goodIn_app (goodIn_of _ (by decide +kernel)) ggX4_paint_X0_remember
set_option maxRecDepth 20000 in
theorem ggX4_paint_X2_picture : GoodIn wsX4_paint wsX2_picture := goodIn_r _ [39, 32, 33, 50, 51, 52, 53, 54] (by decide +kernel) (by decide +kernel)
set_option maxRecDepth 20000 in
theorem gX4_paint_X2_picture : GoodIn wsX4_paint (wsV RX4 69 RX2 yX2_picture wsX2_picture) := goodIn_app (goodIn_of _ (by decide +kernel)) ggX4_paint_X2_picture
theorem dX4_paint_0 : decode cX4_paint 0 = .ok (.iload_n 2, 1) := by decide +kernel
theorem dX4_paint_1 : decode cX4_paint 1 = .ok (.invokestatic 66, 3) := by decide +kernel
theorem dX4_paint_4 : decode cX4_paint 4 = .ok (.ifCond .ne 5, 3) := by decide +kernel
theorem dX4_paint_7 : decode cX4_paint 7 = .ok (.iconst (-1), 1) := by decide +kernel
theorem dX4_paint_8 : decode cX4_paint 8 = .ok (.ireturn, 1) := by decide +kernel
theorem dX4_paint_9 : decode cX4_paint 9 = .ok (.iload_n 3, 1) := by decide +kernel
theorem dX4_paint_10 : decode cX4_paint 10 = .ok (.invokestatic 58, 3) := by decide +kernel
theorem dX4_paint_13 : decode cX4_paint 13 = .ok (.ifCond .ne 6, 3) := by decide +kernel
theorem dX4_paint_16 : decode cX4_paint 16 = .ok (.bipush (-2), 2) := by decide +kernel
theorem dX4_paint_18 : decode cX4_paint 18 = .ok (.ireturn, 1) := by decide +kernel
theorem dX4_paint_19 : decode cX4_paint 19 = .ok (.aload_n 0, 1) := by decide +kernel
theorem dX4_paint_20 : decode cX4_paint 20 = .ok (.getfield 39, 3) := by decide +kernel
theorem dX4_paint_23 : decode cX4_paint 23 = .ok (.aload_n 0, 1) := by decide +kernel
theorem dX4_paint_24 : decode cX4_paint 24 = .ok (.getfield 10, 3) := by decide +kernel
theorem dX4_paint_27 : decode cX4_paint 27 = .ok (.invokevirtual 51, 3) := by decide +kernel
theorem dX4_paint_30 : decode cX4_paint 30 = .ok (.aload_n 0, 1) := by decide +kernel
theorem dX4_paint_31 : decode cX4_paint 31 = .ok (.getfield 10, 3) := by decide +kernel
theorem dX4_paint_34 : decode cX4_paint 34 = .ok (.iload_n 1, 1) := by decide +kernel
theorem dX4_paint_35 : decode cX4_paint 35 = .ok (.invokevirtual 69, 3) := by decide +kernel
theorem dX4_paint_38 : decode cX4_paint 38 = .ok (.astore 4, 2) := by decide +kernel
theorem dX4_paint_40 : decode cX4_paint 40 = .ok (.aload 4, 2) := by decide +kernel
theorem dX4_paint_42 : decode cX4_paint 42 = .ok (.iload_n 2, 1) := by decide +kernel
theorem dX4_paint_43 : decode cX4_paint 43 = .ok (.iaload, 1) := by decide +kernel
theorem dX4_paint_44 : decode cX4_paint 44 = .ok (.istore 5, 2) := by decide +kernel
theorem dX4_paint_46 : decode cX4_paint 46 = .ok (.aload 4, 2) := by decide +kernel
theorem dX4_paint_48 : decode cX4_paint 48 = .ok (.iload_n 2, 1) := by decide +kernel
theorem dX4_paint_49 : decode cX4_paint 49 = .ok (.iload_n 3, 1) := by decide +kernel
theorem dX4_paint_50 : decode cX4_paint 50 = .ok (.iastore, 1) := by decide +kernel
theorem dX4_paint_51 : decode cX4_paint 51 = .ok (.iload 5, 2) := by decide +kernel
theorem dX4_paint_53 : decode cX4_paint 53 = .ok (.ireturn, 1) := by decide +kernel
set_option maxRecDepth 20000 in
theorem ggX4_fill_X4_isPixel : GoodIn wsX4_fill wsX4_isPixel := goodIn_r _ [6] (by decide +kernel) (by decide +kernel)
set_option maxRecDepth 20000 in
theorem gX4_fill_X4_isPixel : GoodIn wsX4_fill (va_wsS RX4 66 yX4_isPixel wsX4_isPixel) := goodIn_app (goodIn_of _ (by decide +kernel)) ggX4_fill_X4_isPixel
set_option maxRecDepth 20000 in
theorem ggX4_fill_X4_isColour : GoodIn wsX4_fill wsX4_isColour := goodIn_r _ [9] (by decide +kernel) (by decide +kernel)
set_option maxRecDepth 20000 in
theorem gX4_fill_X4_isColour : GoodIn wsX4_fill (va_wsS RX4 58 yX4_isColour wsX4_isColour) := goodIn_app (goodIn_of _ (by decide +kernel)) ggX4_fill_X4_isColour
set_option maxRecDepth 20000 in
theorem ggX4_fill_X0_remember : GoodIn wsX4_fill wsX0_remember := goodIn_r _ [14, 15, 16, 17, 18, 19, 20, 21, 22, 23, 24, 25, 26, 27, 28, 29, 30, 31, 32, 33, 34, 35, 57, 58, 59, 60, 61, 62, 63, 64] (by decide +kernel) (by decide +kernel)
set_option maxRecDepth 20000 in
theorem gX4_fill_X0_remember : GoodIn wsX4_fill (wsV RX4 51 RX0 yX0_remember wsX0_remember) := goodIn_app (goodIn_of _ (by decide +kernel)) ggX4_fill_X0_remember
set_option maxRecDepth 20000 in
theorem ggX4_fill_X2_picture : GoodIn wsX4_fill wsX2_picture := goodIn_r _ [39, 32, 33, 60, 61, 62, 63, 64] (by decide +kernel) (by decide +kernel)
set_option maxRecDepth 20000 in
theorem gX4_fill_X2_picture : GoodIn wsX4_fill (wsV RX4 69 RX2 yX2_picture wsX2_picture) := goodIn_app (goodIn_of _ (by decide +kernel)) ggX4_fill_X2_picture
set_option maxRecDepth 20000 in
theorem ggX4_fill_X4_fillBetween : GoodIn wsX4_fill wsX4_fillBetween := goodIn_r _ [42, 43, 44, 45, 46, 47, 48, 49] (by decide +kernel) (by decide +kernel)
set_option maxRecDepth 20000 in
theorem gX4_fill_X4_fillBetween : GoodIn wsX4_fill (va_wsS RX4 73 yX4_fillBetween wsX4_fillBetween) := goodIn_app (goodIn_of _ (by decide +kernel)) ggX4_fill_X4_fillBetween
theorem dX4_fill_0 : decode cX4_fill 0 = .ok (.iload_n 2, 1) := by decide +kernel
theorem dX4_fill_1 : decode cX4_fill 1 = .ok (.invokestatic 66, 3) := by decide +kernel
theorem dX4_fill_4 : decode cX4_fill 4 = .ok (.ifCond .eq 10, 3) := by decide +kernel
theorem dX4_fill_7 : decode cX4_fill 7 = .ok (.iload_n 3, 1) := by decide +kernel
theorem dX4_fill_8 : decode cX4_fill 8 = .ok (.invokestatic 66, 3) := by decide +kernel
theorem dX4_fill_11 : decode cX4_fill 11 = .ok (.ifCond .ne 5, 3) := by decide +kernel
theorem dX4_fill_14 : decode cX4_fill 14 = .ok (.iconst (-1), 1) := by decide +kernel
theorem dX4_fill_15 : decode cX4_fill 15 = .ok (.ireturn, 1) := by decide +kernel
theorem dX4_fill_16 : decode cX4_fill 16 = .ok (.iload 4, 2) := by decide +kernel
theorem dX4_fill_18 : decode cX4_fill 18 = .ok (.invokestatic 58, 3) := by decide +kernel
theorem dX4_fill_21 : decode cX4_fill 21 = .ok (.ifCond .ne 6, 3) := by decide +kernel
theorem dX4_fill_24 : decode cX4_fill 24 = .ok (.bipush (-2), 2) := by decide +kernel
theorem dX4_fill_26 : decode cX4_fill 26 = .ok (.ireturn, 1) := by decide +kernel
theorem dX4_fill_27 : decode cX4_fill 27 = .ok (.aload_n 0, 1) := by decide +kernel
theorem dX4_fill_28 : decode cX4_fill 28 = .ok (.getfield 39, 3) := by decide +kernel
theorem dX4_fill_31 : decode cX4_fill 31 = .ok (.aload_n 0, 1) := by decide +kernel
theorem dX4_fill_32 : decode cX4_fill 32 = .ok (.getfield 10, 3) := by decide +kernel
theorem dX4_fill_35 : decode cX4_fill 35 = .ok (.invokevirtual 51, 3) := by decide +kernel
theorem dX4_fill_38 : decode cX4_fill 38 = .ok (.aload_n 0, 1) := by decide +kernel
theorem dX4_fill_39 : decode cX4_fill 39 = .ok (.getfield 10, 3) := by decide +kernel
theorem dX4_fill_42 : decode cX4_fill 42 = .ok (.iload_n 1, 1) := by decide +kernel
theorem dX4_fill_43 : decode cX4_fill 43 = .ok (.invokevirtual 69, 3) := by decide +kernel
theorem dX4_fill_46 : decode cX4_fill 46 = .ok (.iload_n 2, 1) := by decide +kernel
theorem dX4_fill_47 : decode cX4_fill 47 = .ok (.iload_n 3, 1) := by decide +kernel
theorem dX4_fill_48 : decode cX4_fill 48 = .ok (.iload 4, 2) := by decide +kernel
theorem dX4_fill_50 : decode cX4_fill 50 = .ok (.invokestatic 73, 3) := by decide +kernel
theorem dX4_fill_53 : decode cX4_fill 53 = .ok (.ireturn, 1) := by decide +kernel
set_option maxRecDepth 20000 in
theorem ggX4_read_X4_isRow : GoodIn wsX4_read wsX4_isRow := goodIn_r _ [8] (by decide +kernel) (by decide +kernel)
set_option maxRecDepth 20000 in
theorem gX4_read_X4_isRow : GoodIn wsX4_read (va_wsS RX4 77 yX4_isRow wsX4_isRow) := goodIn_app (goodIn_of _ (by decide +kernel)) ggX4_read_X4_isRow
set_option maxRecDepth 20000 in
theorem ggX4_read_X1_firstFault : GoodIn wsX4_read wsX1_firstFault := goodIn_r _ [13, 14, 15, 16, 17, 12, 18, 62, 63] (by decide +kernel) (by decide +kernel)
set_option maxRecDepth 20000 in
theorem gX4_read_X1_firstFault : GoodIn wsX4_read (wsV RX4 80 RX1 yX1_firstFault wsX1_firstFault) := goodIn_app (goodIn_of _ (by decide +kernel)) ggX4_read_X1_firstFault
set_option maxRecDepth 20000 in
theorem ggX4_read_X0_remember : GoodIn wsX4_read wsX0_remember := goodIn_r _ [23, 24, 25, 26, 27, 28, 29, 30, 31, 32, 33, 34, 35, 36, 37, 38, 39, 40, 41, 42, 43, 44, 64, 65, 66, 67, 68, 69, 70, 71] (by decide +kernel) (by decide +kernel)
set_option maxRecDepth 20000 in
theorem gX4_read_X0_remember : GoodIn wsX4_read (wsV RX4 51 RX0 yX0_remember wsX0_remember) := goodIn_app (goodIn_of _ (by decide +kernel)) ggX4_read_X0_remember
set_option maxRecDepth 20000 in
theorem ggX4_read_X2_picture : GoodIn wsX4_read wsX2_picture := goodIn_r _ [48, 41, 42, 67, 68, 69, 70, 71] (by decide +kernel) (by decide +kernel)
set_option maxRecDepth 20000 in
theorem gX4_read_X2_picture : GoodIn wsX4_read (wsV RX4 69 RX2 yX2_picture wsX2_picture) := goodIn_app (goodIn_of _ (by decide +kernel)) ggX4_read_X2_picture
set_option maxRecDepth 20000 in
theorem ggX4_read_X1_paintOn : GoodIn wsX4_read wsX1_paintOn := goodIn_r _ [52, 14, 15, 16, 17, 12, 18, 53, 7, 54, 62, 63] (by decide +kernel) (by decide +kernel)
set_option maxRecDepth 20000 in
theorem gX4_read_X1_paintOn : GoodIn wsX4_read (wsV RX4 84 RX1 yX1_paintOn wsX1_paintOn) := goodIn_app (goodIn_of _ (by decide +kernel)) ggX4_read_X1_paintOn
theorem dX4_read_0 : decode cX4_read 0 = .ok (.iload_n 2, 1) := by decide +kernel
theorem dX4_read_1 : decode cX4_read 1 = .ok (.invokestatic 77, 3) := by decide +kernel
theorem dX4_read_4 : decode cX4_read 4 = .ok (.ifCond .ne 5, 3) := by decide +kernel
theorem dX4_read_7 : decode cX4_read 7 = .ok (.iconst (-1), 1) := by decide +kernel
theorem dX4_read_8 : decode cX4_read 8 = .ok (.ireturn, 1) := by decide +kernel
theorem dX4_read_9 : decode cX4_read 9 = .ok (.aload_n 0, 1) := by decide +kernel
theorem dX4_read_10 : decode cX4_read 10 = .ok (.getfield 32, 3) := by decide +kernel
theorem dX4_read_13 : decode cX4_read 13 = .ok (.invokevirtual 80, 3) := by decide +kernel
theorem dX4_read_16 : decode cX4_read 16 = .ok (.bipush (-6), 2) := by decide +kernel
theorem dX4_read_18 : decode cX4_read 18 = .ok (.if_icmp .eq 6, 3) := by decide +kernel
theorem dX4_read_21 : decode cX4_read 21 = .ok (.bipush (-3), 2) := by decide +kernel
theorem dX4_read_23 : decode cX4_read 23 = .ok (.ireturn, 1) := by decide +kernel
theorem dX4_read_24 : decode cX4_read 24 = .ok (.aload_n 0, 1) := by decide +kernel
theorem dX4_read_25 : decode cX4_read 25 = .ok (.getfield 39, 3) := by decide +kernel
theorem dX4_read_28 : decode cX4_read 28 = .ok (.aload_n 0, 1) := by decide +kernel
theorem dX4_read_29 : decode cX4_read 29 = .ok (.getfield 10, 3) := by decide +kernel
theorem dX4_read_32 : decode cX4_read 32 = .ok (.invokevirtual 51, 3) := by decide +kernel
theorem dX4_read_35 : decode cX4_read 35 = .ok (.aload_n 0, 1) := by decide +kernel
theorem dX4_read_36 : decode cX4_read 36 = .ok (.getfield 32, 3) := by decide +kernel
theorem dX4_read_39 : decode cX4_read 39 = .ok (.aload_n 0, 1) := by decide +kernel
theorem dX4_read_40 : decode cX4_read 40 = .ok (.getfield 10, 3) := by decide +kernel
theorem dX4_read_43 : decode cX4_read 43 = .ok (.iload_n 1, 1) := by decide +kernel
theorem dX4_read_44 : decode cX4_read 44 = .ok (.invokevirtual 69, 3) := by decide +kernel
theorem dX4_read_47 : decode cX4_read 47 = .ok (.bipush 8, 2) := by decide +kernel
theorem dX4_read_49 : decode cX4_read 49 = .ok (.iload_n 2, 1) := by decide +kernel
theorem dX4_read_50 : decode cX4_read 50 = .ok (.imul, 1) := by decide +kernel
theorem dX4_read_51 : decode cX4_read 51 = .ok (.invokevirtual 84, 3) := by decide +kernel
theorem dX4_read_54 : decode cX4_read 54 = .ok (.istore_n 3, 1) := by decide +kernel
theorem dX4_read_55 : decode cX4_read 55 = .ok (.aload_n 0, 1) := by decide +kernel
theorem dX4_read_56 : decode cX4_read 56 = .ok (.getfield 32, 3) := by decide +kernel
theorem dX4_read_59 : decode cX4_read 59 = .ok (.iconst 0, 1) := by decide +kernel
theorem dX4_read_60 : decode cX4_read 60 = .ok (.putfield 88, 3) := by decide +kernel
theorem dX4_read_63 : decode cX4_read 63 = .ok (.iload_n 3, 1) := by decide +kernel
theorem dX4_read_64 : decode cX4_read 64 = .ok (.ireturn, 1) := by decide +kernel
set_option maxRecDepth 20000 in
theorem ggX4_mark_X4_isPixel : GoodIn wsX4_mark wsX4_isPixel := goodIn_r _ [7] (by decide +kernel) (by decide +kernel)
set_option maxRecDepth 20000 in
theorem gX4_mark_X4_isPixel : GoodIn wsX4_mark (va_wsS RX4 66 yX4_isPixel wsX4_isPixel) := goodIn_app (goodIn_of _ (by decide +kernel)) ggX4_mark_X4_isPixel
set_option maxRecDepth 20000 in
theorem ggX4_mark_X0_remember : GoodIn wsX4_mark wsX0_remember := goodIn_r _ [12, 13, 14, 15, 16, 17, 18, 19, 20, 21, 22, 23, 24, 25, 26, 27, 28, 29, 30, 31, 32, 33, 50, 51, 52, 45, 46, 47, 48, 49] (by decide +kernel) (by decide +kernel)
set_option maxRecDepth 20000 in
theorem gX4_mark_X0_remember : GoodIn wsX4_mark (wsV RX4 51 RX0 yX0_remember wsX0_remember) := goodIn_app (goodIn_of _ (by decide +kernel)) ggX4_mark_X0_remember
set_option maxRecDepth 20000 in
theorem ggX4_mark_X2_marked : GoodIn wsX4_mark wsX2_marked := goodIn_r _ [37, 32, 45, 46, 47, 48, 49] (by decide +kernel) (by decide +kernel)
set_option maxRecDepth 20000 in
theorem gX4_mark_X2_marked : GoodIn wsX4_mark (wsV RX4 95 RX2 yX2_marked wsX2_marked) := goodIn_app (goodIn_of _ (by decide +kernel)) ggX4_mark_X2_marked
theorem dX4_mark_0 : decode cX4_mark 0 = .ok (.iload_n 1, 1) := by decide +kernel
theorem dX4_mark_1 : decode cX4_mark 1 = .ok (.invokestatic 66, 3) := by decide +kernel
theorem dX4_mark_4 : decode cX4_mark 4 = .ok (.ifCond .ne 5, 3) := by decide +kernel
theorem dX4_mark_7 : decode cX4_mark 7 = .ok (.iconst (-1), 1) := by decide +kernel
theorem dX4_mark_8 : decode cX4_mark 8 = .ok (.ireturn, 1) := by decide +kernel
theorem dX4_mark_9 : decode cX4_mark 9 = .ok (.aload_n 0, 1) := by decide +kernel
theorem dX4_mark_10 : decode cX4_mark 10 = .ok (.getfield 10, 3) := by decide +kernel
theorem dX4_mark_13 : decode cX4_mark 13 = .ok (.getfield 91, 3) := by decide +kernel
theorem dX4_mark_16 : decode cX4_mark 16 = .ok (.iload_n 1, 1) := by decide +kernel
theorem dX4_mark_17 : decode cX4_mark 17 = .ok (.baload, 1) := by decide +kernel
theorem dX4_mark_18 : decode cX4_mark 18 = .ok (.iload_n 2, 1) := by decide +kernel
theorem dX4_mark_19 : decode cX4_mark 19 = .ok (.if_icmp .ne 6, 3) := by decide +kernel
theorem dX4_mark_22 : decode cX4_mark 22 = .ok (.bipush (-5), 2) := by decide +kernel
theorem dX4_mark_24 : decode cX4_mark 24 = .ok (.ireturn, 1) := by decide +kernel
theorem dX4_mark_25 : decode cX4_mark 25 = .ok (.aload_n 0, 1) := by decide +kernel
theorem dX4_mark_26 : decode cX4_mark 26 = .ok (.getfield 39, 3) := by decide +kernel
theorem dX4_mark_29 : decode cX4_mark 29 = .ok (.aload_n 0, 1) := by decide +kernel
theorem dX4_mark_30 : decode cX4_mark 30 = .ok (.getfield 10, 3) := by decide +kernel
theorem dX4_mark_33 : decode cX4_mark 33 = .ok (.invokevirtual 51, 3) := by decide +kernel
theorem dX4_mark_36 : decode cX4_mark 36 = .ok (.aload_n 0, 1) := by decide +kernel
theorem dX4_mark_37 : decode cX4_mark 37 = .ok (.getfield 10, 3) := by decide +kernel
theorem dX4_mark_40 : decode cX4_mark 40 = .ok (.getfield 91, 3) := by decide +kernel
theorem dX4_mark_43 : decode cX4_mark 43 = .ok (.iload_n 1, 1) := by decide +kernel
theorem dX4_mark_44 : decode cX4_mark 44 = .ok (.iload_n 2, 1) := by decide +kernel
theorem dX4_mark_45 : decode cX4_mark 45 = .ok (.bastore, 1) := by decide +kernel
theorem dX4_mark_46 : decode cX4_mark 46 = .ok (.aload_n 0, 1) := by decide +kernel
theorem dX4_mark_47 : decode cX4_mark 47 = .ok (.getfield 10, 3) := by decide +kernel
theorem dX4_mark_50 : decode cX4_mark 50 = .ok (.invokevirtual 95, 3) := by decide +kernel
theorem dX4_mark_53 : decode cX4_mark 53 = .ok (.ireturn, 1) := by decide +kernel
set_option maxRecDepth 20000 in
theorem ggX4_keep_X0_remember : GoodIn wsX4_keep wsX0_remember := goodIn_r _ [11, 12, 13, 14, 15, 16, 17, 18, 19, 20, 21, 22, 23, 24, 25, 26, 27, 28, 29, 30, 31, 32, 148, 149, 150, 143, 144, 145, 146, 147] (by decide +kernel) (by decide +kernel)
set_option maxRecDepth 20000 in
theorem gX4_keep_X0_remember : GoodIn wsX4_keep (wsV RX4 51 RX0 yX0_remember wsX0_remember) := goodIn_app (goodIn_of _ (by decide +kernel)) ggX4_keep_X0_remember
set_option maxRecDepth 20000 in
theorem ggX4_keep_X3_show : GoodIn wsX4_keep wsX3_show := goodIn_r _ [37, 38, 39, 40, 36, 41, 42, 43, 44, 45, 46, 47, 22, 48, 29, 32, 49, 50, 51, 52, 53, 54, 55, 56, 57, 58, 59, 60, 61, 62, 63, 64, 65, 66, 67, 68, 69, 70, 71, 72, 73, 74, 75, 76, 77, 78, 79, 80, 81, 82, 83, 84, 85, 86, 87, 88, 89, 90, 91, 92, 93, 94, 95, 96, 97, 98, 99, 100, 101, 102, 103, 104, 105, 106, 107, 108, 109, 110, 111, 112, 113, 114, 115, 116, 117, 118, 119, 120, 121, 122, 143, 144, 145, 146, 147, 133, 134, 135, 136, 137, 138, 139, 140, 141, 142] (by decide +kernel) (by decide +kernel)
set_option maxRecDepth 20000 in
theorem gX4_keep_X3_show : GoodIn wsX4_keep (wsV RX4 98 RX3 yX3_show wsX3_show) := goodIn_app (goodIn_of _ (by decide +kernel)) ggX4_keep_X3_show
set_option maxRecDepth 20000 in
theorem ggX4_keep_X4_sameColours : GoodIn wsX4_keep wsX4_sameColours := goodIn_r _ [125] (by decide +kernel) (by decide +kernel)
set_option maxRecDepth 20000 in
theorem gX4_keep_X4_sameColours : GoodIn wsX4_keep (va_wsS RX4 108 yX4_sameColours wsX4_sameColours) := goodIn_app (goodIn_of _ (by decide +kernel)) ggX4_keep_X4_sameColours
theorem dX4_keep_0 : decode cX4_keep 0 = .ok (.aload_n 0, 1) := by decide +kernel
theorem dX4_keep_1 : decode cX4_keep 1 = .ok (.getfield 39, 3) := by decide +kernel
theorem dX4_keep_4 : decode cX4_keep 4 = .ok (.aload_n 0, 1) := by decide +kernel
theorem dX4_keep_5 : decode cX4_keep 5 = .ok (.getfield 10, 3) := by decide +kernel
theorem dX4_keep_8 : decode cX4_keep 8 = .ok (.invokevirtual 51, 3) := by decide +kernel
theorem dX4_keep_11 : decode cX4_keep 11 = .ok (.aload_n 0, 1) := by decide +kernel
theorem dX4_keep_12 : decode cX4_keep 12 = .ok (.getfield 22, 3) := by decide +kernel
theorem dX4_keep_15 : decode cX4_keep 15 = .ok (.aload_n 0, 1) := by decide +kernel
theorem dX4_keep_16 : decode cX4_keep 16 = .ok (.getfield 10, 3) := by decide +kernel
theorem dX4_keep_19 : decode cX4_keep 19 = .ok (.invokevirtual 98, 3) := by decide +kernel
theorem dX4_keep_22 : decode cX4_keep 22 = .ok (.bipush 48, 2) := by decide +kernel
theorem dX4_keep_24 : decode cX4_keep 24 = .ok (.aload_n 0, 1) := by decide +kernel
theorem dX4_keep_25 : decode cX4_keep 25 = .ok (.getfield 22, 3) := by decide +kernel
theorem dX4_keep_28 : decode cX4_keep 28 = .ok (.getfield 101, 3) := by decide +kernel
theorem dX4_keep_31 : decode cX4_keep 31 = .ok (.aload_n 0, 1) := by decide +kernel
theorem dX4_keep_32 : decode cX4_keep 32 = .ok (.getfield 10, 3) := by decide +kernel
theorem dX4_keep_35 : decode cX4_keep 35 = .ok (.getfield 105, 3) := by decide +kernel
theorem dX4_keep_38 : decode cX4_keep 38 = .ok (.invokestatic 108, 3) := by decide +kernel
theorem dX4_keep_41 : decode cX4_keep 41 = .ok (.isub, 1) := by decide +kernel
theorem dX4_keep_42 : decode cX4_keep 42 = .ok (.istore_n 1, 1) := by decide +kernel
theorem dX4_keep_43 : decode cX4_keep 43 = .ok (.iconst 0, 1) := by decide +kernel
theorem dX4_keep_44 : decode cX4_keep 44 = .ok (.istore_n 2, 1) := by decide +kernel
theorem dX4_keep_45 : decode cX4_keep 45 = .ok (.iload_n 2, 1) := by decide +kernel
theorem dX4_keep_46 : decode cX4_keep 46 = .ok (.bipush 48, 2) := by decide +kernel
theorem dX4_keep_48 : decode cX4_keep 48 = .ok (.if_icmp .ge 37, 3) := by decide +kernel
theorem dX4_keep_51 : decode cX4_keep 51 = .ok (.aload_n 0, 1) := by decide +kernel
theorem dX4_keep_52 : decode cX4_keep 52 = .ok (.getfield 10, 3) := by decide +kernel
theorem dX4_keep_55 : decode cX4_keep 55 = .ok (.getfield 105, 3) := by decide +kernel
theorem dX4_keep_58 : decode cX4_keep 58 = .ok (.iload_n 2, 1) := by decide +kernel
theorem dX4_keep_59 : decode cX4_keep 59 = .ok (.aload_n 0, 1) := by decide +kernel
theorem dX4_keep_60 : decode cX4_keep 60 = .ok (.getfield 22, 3) := by decide +kernel
theorem dX4_keep_63 : decode cX4_keep 63 = .ok (.getfield 101, 3) := by decide +kernel
theorem dX4_keep_66 : decode cX4_keep 66 = .ok (.iload_n 2, 1) := by decide +kernel
theorem dX4_keep_67 : decode cX4_keep 67 = .ok (.iaload, 1) := by decide +kernel
theorem dX4_keep_68 : decode cX4_keep 68 = .ok (.iastore, 1) := by decide +kernel
theorem dX4_keep_69 : decode cX4_keep 69 = .ok (.aload_n 0, 1) := by decide +kernel
theorem dX4_keep_70 : decode cX4_keep 70 = .ok (.getfield 10, 3) := by decide +kernel
theorem dX4_keep_73 : decode cX4_keep 73 = .ok (.getfield 91, 3) := by decide +kernel
theorem dX4_keep_76 : decode cX4_keep 76 = .ok (.iload_n 2, 1) := by decide +kernel
theorem dX4_keep_77 : decode cX4_keep 77 = .ok (.iconst 0, 1) := by decide +kernel
theorem dX4_keep_78 : decode cX4_keep 78 = .ok (.bastore, 1) := by decide +kernel
theorem dX4_keep_79 : decode cX4_keep 79 = .ok (.iinc 2 1, 3) := by decide +kernel
theorem dX4_keep_82 : decode cX4_keep 82 = .ok (.goto (-37), 3) := by decide +kernel
theorem dX4_keep_85 : decode cX4_keep 85 = .ok (.iload_n 1, 1) := by decide +kernel
theorem dX4_keep_86 : decode cX4_keep 86 = .ok (.ireturn, 1) := by decide +kernel
set_option maxRecDepth 20000 in
theorem ggX4_pixel_X4_isPixel : GoodIn wsX4_pixel wsX4_isPixel := goodIn_r _ [15] (by decide +kernel) (by decide +kernel)
set_option maxRecDepth 20000 in
theorem gX4_pixel_X4_isPixel : GoodIn wsX4_pixel (va_wsS RX4 66 yX4_isPixel wsX4_isPixel) := goodIn_app (goodIn_of _ (by decide +kernel)) ggX4_pixel_X4_isPixel
set_option maxRecDepth 20000 in
theorem ggX4_pixel_X3_show : GoodIn wsX4_pixel wsX3_show := goodIn_r _ [20, 21, 22, 23, 19, 24, 25, 26, 27, 28, 29, 30, 31, 32, 33, 34, 13, 14, 15, 35, 36, 37, 38, 39, 40, 41, 42, 43, 44, 45, 46, 47, 48, 49, 50, 51, 52, 53, 54, 55, 56, 57, 58, 59, 60, 61, 62, 63, 64, 65, 66, 67, 68, 69, 70, 71, 72, 73, 74, 75, 76, 77, 78, 79, 80, 81, 82, 83, 84, 85, 86, 87, 88, 89, 90, 91, 92, 93, 94, 95, 96, 97, 98, 99, 100, 101, 102, 103, 104, 105, 114, 115, 116, 117, 118, 119, 120, 121, 122, 123, 124, 125, 126, 127, 128] (by decide +kernel) (by decide +kernel)
set_option maxRecDepth 20000 in
theorem gX4_pixel_X3_show : GoodIn wsX4_pixel (wsV RX4 98 RX3 yX3_show wsX3_show) := goodIn_app (goodIn_of _ (by decide +kernel)) ggX4_pixel_X3_show
set_option maxRecDepth 20000 in
theorem ggX4_pixel_X2_distanceOf : GoodIn wsX4_pixel wsX2_distanceOf := goodIn_r _ [32, 33, 34, 13, 14, 15, 35, 36, 37, 38, 39, 40, 41, 42, 43, 44, 45, 46, 114, 115, 116, 117, 118] (by decide +kernel) (by decide +kernel)
set_option maxRecDepth 20000 in
theorem gX4_pixel_X2_distanceOf : GoodIn wsX4_pixel (wsV RX4 115 RX2 yX2_distanceOf wsX2_distanceOf) := goodIn_app (goodIn_of _ (by decide +kernel)) ggX4_pixel_X2_distanceOf
theorem dX4_pixel_0 : decode cX4_pixel 0 = .ok (.iload_n 1, 1) := by decide +kernel
theorem dX4_pixel_1 : decode cX4_pixel 1 = .ok (.invokestatic 66, 3) := by decide +kernel
theorem dX4_pixel_4 : decode cX4_pixel 4 = .ok (.ifCond .ne 5, 3) := by decide +kernel
theorem dX4_pixel_7 : decode cX4_pixel 7 = .ok (.iconst (-1), 1) := by decide +kernel
theorem dX4_pixel_8 : decode cX4_pixel 8 = .ok (.ireturn, 1) := by decide +kernel
theorem dX4_pixel_9 : decode cX4_pixel 9 = .ok (.aload_n 0, 1) := by decide +kernel
theorem dX4_pixel_10 : decode cX4_pixel 10 = .ok (.getfield 22, 3) := by decide +kernel
theorem dX4_pixel_13 : decode cX4_pixel 13 = .ok (.aload_n 0, 1) := by decide +kernel
theorem dX4_pixel_14 : decode cX4_pixel 14 = .ok (.getfield 10, 3) := by decide +kernel
theorem dX4_pixel_17 : decode cX4_pixel 17 = .ok (.invokevirtual 98, 3) := by decide +kernel
theorem dX4_pixel_20 : decode cX4_pixel 20 = .ok (.iload_n 2, 1) := by decide +kernel
theorem dX4_pixel_21 : decode cX4_pixel 21 = .ok (.tableswitch 154 0 9 #[55, 65, 75, 84, 94, 104, 114, 124, 134, 144], 55) := by decide +kernel
theorem dX4_pixel_76 : decode cX4_pixel 76 = .ok (.aload_n 0, 1) := by decide +kernel
theorem dX4_pixel_77 : decode cX4_pixel 77 = .ok (.getfield 10, 3) := by decide +kernel
theorem dX4_pixel_80 : decode cX4_pixel 80 = .ok (.getfield 105, 3) := by decide +kernel
theorem dX4_pixel_83 : decode cX4_pixel 83 = .ok (.iload_n 1, 1) := by decide +kernel
theorem dX4_pixel_84 : decode cX4_pixel 84 = .ok (.iaload, 1) := by decide +kernel
theorem dX4_pixel_85 : decode cX4_pixel 85 = .ok (.ireturn, 1) := by decide +kernel
theorem dX4_pixel_86 : decode cX4_pixel 86 = .ok (.aload_n 0, 1) := by decide +kernel
theorem dX4_pixel_87 : decode cX4_pixel 87 = .ok (.getfield 10, 3) := by decide +kernel
theorem dX4_pixel_90 : decode cX4_pixel 90 = .ok (.getfield 112, 3) := by decide +kernel
theorem dX4_pixel_93 : decode cX4_pixel 93 = .ok (.iload_n 1, 1) := by decide +kernel
theorem dX4_pixel_94 : decode cX4_pixel 94 = .ok (.iaload, 1) := by decide +kernel
theorem dX4_pixel_95 : decode cX4_pixel 95 = .ok (.ireturn, 1) := by decide +kernel
theorem dX4_pixel_96 : decode cX4_pixel 96 = .ok (.aload_n 0, 1) := by decide +kernel
theorem dX4_pixel_97 : decode cX4_pixel 97 = .ok (.getfield 10, 3) := by decide +kernel
theorem dX4_pixel_100 : decode cX4_pixel 100 = .ok (.iload_n 1, 1) := by decide +kernel
theorem dX4_pixel_101 : decode cX4_pixel 101 = .ok (.invokevirtual 115, 3) := by decide +kernel
theorem dX4_pixel_104 : decode cX4_pixel 104 = .ok (.ireturn, 1) := by decide +kernel
theorem dX4_pixel_105 : decode cX4_pixel 105 = .ok (.aload_n 0, 1) := by decide +kernel
theorem dX4_pixel_106 : decode cX4_pixel 106 = .ok (.getfield 22, 3) := by decide +kernel
theorem dX4_pixel_109 : decode cX4_pixel 109 = .ok (.getfield 119, 3) := by decide +kernel
theorem dX4_pixel_112 : decode cX4_pixel 112 = .ok (.iload_n 1, 1) := by decide +kernel
theorem dX4_pixel_113 : decode cX4_pixel 113 = .ok (.iaload, 1) := by decide +kernel
theorem dX4_pixel_114 : decode cX4_pixel 114 = .ok (.ireturn, 1) := by decide +kernel
theorem dX4_pixel_115 : decode cX4_pixel 115 = .ok (.aload_n 0, 1) := by decide +kernel
theorem dX4_pixel_116 : decode cX4_pixel 116 = .ok (.getfield 22, 3) := by decide +kernel
theorem dX4_pixel_119 : decode cX4_pixel 119 = .ok (.getfield 122, 3) := by decide +kernel
theorem dX4_pixel_122 : decode cX4_pixel 122 = .ok (.iload_n 1, 1) := by decide +kernel
theorem dX4_pixel_123 : decode cX4_pixel 123 = .ok (.iaload, 1) := by decide +kernel
theorem dX4_pixel_124 : decode cX4_pixel 124 = .ok (.ireturn, 1) := by decide +kernel
theorem dX4_pixel_125 : decode cX4_pixel 125 = .ok (.aload_n 0, 1) := by decide +kernel
theorem dX4_pixel_126 : decode cX4_pixel 126 = .ok (.getfield 22, 3) := by decide +kernel
theorem dX4_pixel_129 : decode cX4_pixel 129 = .ok (.getfield 125, 3) := by decide +kernel
theorem dX4_pixel_132 : decode cX4_pixel 132 = .ok (.iload_n 1, 1) := by decide +kernel
theorem dX4_pixel_133 : decode cX4_pixel 133 = .ok (.iaload, 1) := by decide +kernel
theorem dX4_pixel_134 : decode cX4_pixel 134 = .ok (.ireturn, 1) := by decide +kernel
theorem dX4_pixel_135 : decode cX4_pixel 135 = .ok (.aload_n 0, 1) := by decide +kernel
theorem dX4_pixel_136 : decode cX4_pixel 136 = .ok (.getfield 22, 3) := by decide +kernel
theorem dX4_pixel_139 : decode cX4_pixel 139 = .ok (.getfield 128, 3) := by decide +kernel
theorem dX4_pixel_142 : decode cX4_pixel 142 = .ok (.iload_n 1, 1) := by decide +kernel
theorem dX4_pixel_143 : decode cX4_pixel 143 = .ok (.iaload, 1) := by decide +kernel
theorem dX4_pixel_144 : decode cX4_pixel 144 = .ok (.ireturn, 1) := by decide +kernel
theorem dX4_pixel_145 : decode cX4_pixel 145 = .ok (.aload_n 0, 1) := by decide +kernel
theorem dX4_pixel_146 : decode cX4_pixel 146 = .ok (.getfield 22, 3) := by decide +kernel
theorem dX4_pixel_149 : decode cX4_pixel 149 = .ok (.getfield 131, 3) := by decide +kernel
theorem dX4_pixel_152 : decode cX4_pixel 152 = .ok (.iload_n 1, 1) := by decide +kernel
theorem dX4_pixel_153 : decode cX4_pixel 153 = .ok (.iaload, 1) := by decide +kernel
theorem dX4_pixel_154 : decode cX4_pixel 154 = .ok (.ireturn, 1) := by decide +kernel
theorem dX4_pixel_155 : decode cX4_pixel 155 = .ok (.aload_n 0, 1) := by decide +kernel
theorem dX4_pixel_156 : decode cX4_pixel 156 = .ok (.getfield 22, 3) := by decide +kernel
theorem dX4_pixel_159 : decode cX4_pixel 159 = .ok (.getfield 134, 3) := by decide +kernel
theorem dX4_pixel_162 : decode cX4_pixel 162 = .ok (.iload_n 1, 1) := by decide +kernel
theorem dX4_pixel_163 : decode cX4_pixel 163 = .ok (.iaload, 1) := by decide +kernel
theorem dX4_pixel_164 : decode cX4_pixel 164 = .ok (.ireturn, 1) := by decide +kernel
theorem dX4_pixel_165 : decode cX4_pixel 165 = .ok (.aload_n 0, 1) := by decide +kernel
theorem dX4_pixel_166 : decode cX4_pixel 166 = .ok (.getfield 22, 3) := by decide +kernel
theorem dX4_pixel_169 : decode cX4_pixel 169 = .ok (.getfield 101, 3) := by decide +kernel
theorem dX4_pixel_172 : decode cX4_pixel 172 = .ok (.iload_n 1, 1) := by decide +kernel
theorem dX4_pixel_173 : decode cX4_pixel 173 = .ok (.iaload, 1) := by decide +kernel
theorem dX4_pixel_174 : decode cX4_pixel 174 = .ok (.ireturn, 1) := by decide +kernel
theorem dX4_pixel_175 : decode cX4_pixel 175 = .ok (.bipush (-2), 2) := by decide +kernel
theorem dX4_pixel_177 : decode cX4_pixel 177 = .ok (.ireturn, 1) := by decide +kernel
set_option maxRecDepth 20000 in
theorem ggX4_count_X3_show : GoodIn wsX4_count wsX3_show := goodIn_r _ [19, 20, 21, 22, 18, 23, 24, 25, 26, 27, 28, 29, 30, 31, 32, 33, 34, 35, 36, 37, 38, 39, 40, 41, 42, 43, 44, 45, 46, 47, 48, 49, 50, 51, 52, 53, 54, 55, 56, 57, 58, 59, 60, 61, 62, 63, 64, 65, 66, 67, 68, 69, 70, 71, 72, 73, 74, 75, 76, 77, 78, 79, 80, 81, 82, 83, 84, 85, 86, 87, 88, 89, 90, 91, 92, 93, 94, 95, 96, 97, 98, 99, 100, 101, 102, 103, 104, 105, 106, 107, 134, 135, 136, 137, 138, 139, 140, 141, 142, 143, 144, 145, 146, 147, 148] (by decide +kernel) (by decide +kernel)
set_option maxRecDepth 20000 in
theorem gX4_count_X3_show : GoodIn wsX4_count (wsV RX4 98 RX3 yX3_show wsX3_show) := goodIn_app (goodIn_of _ (by decide +kernel)) ggX4_count_X3_show
set_option maxRecDepth 20000 in
theorem ggX4_count_X3_ofKind : GoodIn wsX4_count wsX3_ofKind := goodIn_r _ [111, 75, 139, 140, 141, 142, 143, 144, 145, 146, 147, 148] (by decide +kernel) (by decide +kernel)
set_option maxRecDepth 20000 in
theorem gX4_count_X3_ofKind : GoodIn wsX4_count (wsV RX4 140 RX3 yX3_ofKind wsX3_ofKind) := goodIn_app (goodIn_of _ (by decide +kernel)) ggX4_count_X3_ofKind
set_option maxRecDepth 20000 in
theorem ggX4_count_X4_sum : GoodIn wsX4_count wsX4_sum := goodIn_r _ [114] (by decide +kernel) (by decide +kernel)
set_option maxRecDepth 20000 in
theorem gX4_count_X4_sum : GoodIn wsX4_count (va_wsS RX4 143 yX4_sum wsX4_sum) := goodIn_app (goodIn_of _ (by decide +kernel)) ggX4_count_X4_sum
set_option maxRecDepth 20000 in
theorem ggX4_count_X3_closed : GoodIn wsX4_count wsX3_closed := goodIn_r _ [118, 26, 25, 139, 140, 141, 142, 143, 144, 145, 146, 147, 148] (by decide +kernel) (by decide +kernel)
set_option maxRecDepth 20000 in
theorem gX4_count_X3_closed : GoodIn wsX4_count (wsV RX4 147 RX3 yX3_closed wsX3_closed) := goodIn_app (goodIn_of _ (by decide +kernel)) ggX4_count_X3_closed
set_option maxRecDepth 20000 in
theorem ggX4_count_X4_sameColours : GoodIn wsX4_count wsX4_sameColours := goodIn_r _ [121] (by decide +kernel) (by decide +kernel)
set_option maxRecDepth 20000 in
theorem gX4_count_X4_sameColours : GoodIn wsX4_count (va_wsS RX4 108 yX4_sameColours wsX4_sameColours) := goodIn_app (goodIn_of _ (by decide +kernel)) ggX4_count_X4_sameColours
set_option maxRecDepth 20000 in
theorem ggX4_count_X2_marked : GoodIn wsX4_count wsX2_marked := goodIn_r _ [125, 126, 134, 135, 136, 137, 138] (by decide +kernel) (by decide +kernel)
set_option maxRecDepth 20000 in
theorem gX4_count_X2_marked : GoodIn wsX4_count (wsV RX4 95 RX2 yX2_marked wsX2_marked) := goodIn_app (goodIn_of _ (by decide +kernel)) ggX4_count_X2_marked
theorem dX4_count_0 : decode cX4_count 0 = .ok (.iload_n 1, 1) := by decide +kernel
theorem dX4_count_1 : decode cX4_count 1 = .ok (.ifCond .lt 19, 3) := by decide +kernel
theorem dX4_count_4 : decode cX4_count 4 = .ok (.iload_n 1, 1) := by decide +kernel
theorem dX4_count_5 : decode cX4_count 5 = .ok (.bipush 6, 2) := by decide +kernel
theorem dX4_count_7 : decode cX4_count 7 = .ok (.if_icmp .ge 13, 3) := by decide +kernel
theorem dX4_count_10 : decode cX4_count 10 = .ok (.aload_n 0, 1) := by decide +kernel
theorem dX4_count_11 : decode cX4_count 11 = .ok (.getfield 10, 3) := by decide +kernel
theorem dX4_count_14 : decode cX4_count 14 = .ok (.getfield 137, 3) := by decide +kernel
theorem dX4_count_17 : decode cX4_count 17 = .ok (.iload_n 1, 1) := by decide +kernel
theorem dX4_count_18 : decode cX4_count 18 = .ok (.iaload, 1) := by decide +kernel
theorem dX4_count_19 : decode cX4_count 19 = .ok (.ireturn, 1) := by decide +kernel
theorem dX4_count_20 : decode cX4_count 20 = .ok (.aload_n 0, 1) := by decide +kernel
theorem dX4_count_21 : decode cX4_count 21 = .ok (.getfield 22, 3) := by decide +kernel
theorem dX4_count_24 : decode cX4_count 24 = .ok (.aload_n 0, 1) := by decide +kernel
theorem dX4_count_25 : decode cX4_count 25 = .ok (.getfield 10, 3) := by decide +kernel
theorem dX4_count_28 : decode cX4_count 28 = .ok (.invokevirtual 98, 3) := by decide +kernel
theorem dX4_count_31 : decode cX4_count 31 = .ok (.iload_n 1, 1) := by decide +kernel
theorem dX4_count_32 : decode cX4_count 32 = .ok (.tableswitch 230 6 20 #[76, 84, 93, 102, 111, 120, 129, 140, 151, 162, 170, 188, 206, 214, 222], 76) := by decide +kernel
theorem dX4_count_108 : decode cX4_count 108 = .ok (.aload_n 0, 1) := by decide +kernel
theorem dX4_count_109 : decode cX4_count 109 = .ok (.getfield 10, 3) := by decide +kernel
theorem dX4_count_112 : decode cX4_count 112 = .ok (.getfield 62, 3) := by decide +kernel
theorem dX4_count_115 : decode cX4_count 115 = .ok (.ireturn, 1) := by decide +kernel
theorem dX4_count_116 : decode cX4_count 116 = .ok (.aload_n 0, 1) := by decide +kernel
theorem dX4_count_117 : decode cX4_count 117 = .ok (.getfield 22, 3) := by decide +kernel
theorem dX4_count_120 : decode cX4_count 120 = .ok (.iconst 0, 1) := by decide +kernel
theorem dX4_count_121 : decode cX4_count 121 = .ok (.invokevirtual 140, 3) := by decide +kernel
theorem dX4_count_124 : decode cX4_count 124 = .ok (.ireturn, 1) := by decide +kernel
theorem dX4_count_125 : decode cX4_count 125 = .ok (.aload_n 0, 1) := by decide +kernel
theorem dX4_count_126 : decode cX4_count 126 = .ok (.getfield 22, 3) := by decide +kernel
theorem dX4_count_129 : decode cX4_count 129 = .ok (.iconst 1, 1) := by decide +kernel
theorem dX4_count_130 : decode cX4_count 130 = .ok (.invokevirtual 140, 3) := by decide +kernel
theorem dX4_count_133 : decode cX4_count 133 = .ok (.ireturn, 1) := by decide +kernel
theorem dX4_count_134 : decode cX4_count 134 = .ok (.aload_n 0, 1) := by decide +kernel
theorem dX4_count_135 : decode cX4_count 135 = .ok (.getfield 22, 3) := by decide +kernel
theorem dX4_count_138 : decode cX4_count 138 = .ok (.iconst 2, 1) := by decide +kernel
theorem dX4_count_139 : decode cX4_count 139 = .ok (.invokevirtual 140, 3) := by decide +kernel
theorem dX4_count_142 : decode cX4_count 142 = .ok (.ireturn, 1) := by decide +kernel
theorem dX4_count_143 : decode cX4_count 143 = .ok (.aload_n 0, 1) := by decide +kernel
theorem dX4_count_144 : decode cX4_count 144 = .ok (.getfield 22, 3) := by decide +kernel
theorem dX4_count_147 : decode cX4_count 147 = .ok (.iconst 3, 1) := by decide +kernel
theorem dX4_count_148 : decode cX4_count 148 = .ok (.invokevirtual 140, 3) := by decide +kernel
theorem dX4_count_151 : decode cX4_count 151 = .ok (.ireturn, 1) := by decide +kernel
theorem dX4_count_152 : decode cX4_count 152 = .ok (.aload_n 0, 1) := by decide +kernel
theorem dX4_count_153 : decode cX4_count 153 = .ok (.getfield 22, 3) := by decide +kernel
theorem dX4_count_156 : decode cX4_count 156 = .ok (.iconst 4, 1) := by decide +kernel
theorem dX4_count_157 : decode cX4_count 157 = .ok (.invokevirtual 140, 3) := by decide +kernel
theorem dX4_count_160 : decode cX4_count 160 = .ok (.ireturn, 1) := by decide +kernel
theorem dX4_count_161 : decode cX4_count 161 = .ok (.aload_n 0, 1) := by decide +kernel
theorem dX4_count_162 : decode cX4_count 162 = .ok (.getfield 22, 3) := by decide +kernel
theorem dX4_count_165 : decode cX4_count 165 = .ok (.getfield 122, 3) := by decide +kernel
theorem dX4_count_168 : decode cX4_count 168 = .ok (.invokestatic 143, 3) := by decide +kernel
theorem dX4_count_171 : decode cX4_count 171 = .ok (.ireturn, 1) := by decide +kernel
theorem dX4_count_172 : decode cX4_count 172 = .ok (.aload_n 0, 1) := by decide +kernel
theorem dX4_count_173 : decode cX4_count 173 = .ok (.getfield 22, 3) := by decide +kernel
theorem dX4_count_176 : decode cX4_count 176 = .ok (.getfield 128, 3) := by decide +kernel
theorem dX4_count_179 : decode cX4_count 179 = .ok (.invokestatic 143, 3) := by decide +kernel
theorem dX4_count_182 : decode cX4_count 182 = .ok (.ireturn, 1) := by decide +kernel
theorem dX4_count_183 : decode cX4_count 183 = .ok (.aload_n 0, 1) := by decide +kernel
theorem dX4_count_184 : decode cX4_count 184 = .ok (.getfield 22, 3) := by decide +kernel
theorem dX4_count_187 : decode cX4_count 187 = .ok (.getfield 131, 3) := by decide +kernel
theorem dX4_count_190 : decode cX4_count 190 = .ok (.invokestatic 143, 3) := by decide +kernel
theorem dX4_count_193 : decode cX4_count 193 = .ok (.ireturn, 1) := by decide +kernel
theorem dX4_count_194 : decode cX4_count 194 = .ok (.aload_n 0, 1) := by decide +kernel
theorem dX4_count_195 : decode cX4_count 195 = .ok (.getfield 22, 3) := by decide +kernel
theorem dX4_count_198 : decode cX4_count 198 = .ok (.invokevirtual 147, 3) := by decide +kernel
theorem dX4_count_201 : decode cX4_count 201 = .ok (.ireturn, 1) := by decide +kernel
theorem dX4_count_202 : decode cX4_count 202 = .ok (.aload_n 0, 1) := by decide +kernel
theorem dX4_count_203 : decode cX4_count 203 = .ok (.getfield 22, 3) := by decide +kernel
theorem dX4_count_206 : decode cX4_count 206 = .ok (.getfield 101, 3) := by decide +kernel
theorem dX4_count_209 : decode cX4_count 209 = .ok (.aload_n 0, 1) := by decide +kernel
theorem dX4_count_210 : decode cX4_count 210 = .ok (.getfield 10, 3) := by decide +kernel
theorem dX4_count_213 : decode cX4_count 213 = .ok (.getfield 112, 3) := by decide +kernel
theorem dX4_count_216 : decode cX4_count 216 = .ok (.invokestatic 108, 3) := by decide +kernel
theorem dX4_count_219 : decode cX4_count 219 = .ok (.ireturn, 1) := by decide +kernel
theorem dX4_count_220 : decode cX4_count 220 = .ok (.aload_n 0, 1) := by decide +kernel
theorem dX4_count_221 : decode cX4_count 221 = .ok (.getfield 22, 3) := by decide +kernel
theorem dX4_count_224 : decode cX4_count 224 = .ok (.getfield 101, 3) := by decide +kernel
theorem dX4_count_227 : decode cX4_count 227 = .ok (.aload_n 0, 1) := by decide +kernel
theorem dX4_count_228 : decode cX4_count 228 = .ok (.getfield 10, 3) := by decide +kernel
theorem dX4_count_231 : decode cX4_count 231 = .ok (.getfield 105, 3) := by decide +kernel
theorem dX4_count_234 : decode cX4_count 234 = .ok (.invokestatic 108, 3) := by decide +kernel
theorem dX4_count_237 : decode cX4_count 237 = .ok (.ireturn, 1) := by decide +kernel
theorem dX4_count_238 : decode cX4_count 238 = .ok (.aload_n 0, 1) := by decide +kernel
theorem dX4_count_239 : decode cX4_count 239 = .ok (.getfield 10, 3) := by decide +kernel
theorem dX4_count_242 : decode cX4_count 242 = .ok (.invokevirtual 95, 3) := by decide +kernel
theorem dX4_count_245 : decode cX4_count 245 = .ok (.ireturn, 1) := by decide +kernel
theorem dX4_count_246 : decode cX4_count 246 = .ok (.aload_n 0, 1) := by decide +kernel
theorem dX4_count_247 : decode cX4_count 247 = .ok (.getfield 32, 3) := by decide +kernel
theorem dX4_count_250 : decode cX4_count 250 = .ok (.getfield 88, 3) := by decide +kernel
theorem dX4_count_253 : decode cX4_count 253 = .ok (.ireturn, 1) := by decide +kernel
theorem dX4_count_254 : decode cX4_count 254 = .ok (.aload_n 0, 1) := by decide +kernel
theorem dX4_count_255 : decode cX4_count 255 = .ok (.getfield 39, 3) := by decide +kernel
theorem dX4_count_258 : decode cX4_count 258 = .ok (.getfield 150, 3) := by decide +kernel
theorem dX4_count_261 : decode cX4_count 261 = .ok (.ireturn, 1) := by decide +kernel
theorem dX4_count_262 : decode cX4_count 262 = .ok (.bipush (-2), 2) := by decide +kernel
theorem dX4_count_264 : decode cX4_count 264 = .ok (.ireturn, 1) := by decide +kernel
set_option maxRecDepth 20000 in
theorem ggX4_row_X4_isRow : GoodIn wsX4_row wsX4_isRow := goodIn_r _ [7] (by decide +kernel) (by decide +kernel)
set_option maxRecDepth 20000 in
theorem gX4_row_X4_isRow : GoodIn wsX4_row (va_wsS RX4 77 yX4_isRow wsX4_isRow) := goodIn_app (goodIn_of _ (by decide +kernel)) ggX4_row_X4_isRow
set_option maxRecDepth 20000 in
theorem ggX4_row_X3_show : GoodIn wsX4_row wsX3_show := goodIn_r _ [12, 13, 14, 15, 11, 16, 17, 18, 19, 20, 21, 22, 23, 24, 25, 26, 27, 6, 28, 29, 30, 31, 32, 33, 34, 35, 36, 37, 38, 39, 40, 41, 42, 43, 44, 45, 46, 47, 48, 49, 50, 51, 52, 53, 54, 55, 56, 57, 58, 59, 60, 61, 62, 63, 64, 65, 66, 67, 68, 69, 70, 71, 72, 73, 74, 75, 76, 77, 78, 79, 80, 81, 82, 83, 84, 85, 86, 87, 88, 89, 90, 91, 92, 93, 94, 95, 96, 97, 98, 99, 117, 118, 119, 120, 121, 107, 108, 109, 110, 111, 112, 113, 114, 115, 116] (by decide +kernel) (by decide +kernel)
set_option maxRecDepth 20000 in
theorem gX4_row_X3_show : GoodIn wsX4_row (wsV RX4 98 RX3 yX3_show wsX3_show) := goodIn_app (goodIn_of _ (by decide +kernel)) ggX4_row_X3_show
theorem dX4_row_0 : decode cX4_row 0 = .ok (.iload_n 1, 1) := by decide +kernel
theorem dX4_row_1 : decode cX4_row 1 = .ok (.invokestatic 77, 3) := by decide +kernel
theorem dX4_row_4 : decode cX4_row 4 = .ok (.ifCond .ne 5, 3) := by decide +kernel
theorem dX4_row_7 : decode cX4_row 7 = .ok (.iconst (-1), 1) := by decide +kernel
theorem dX4_row_8 : decode cX4_row 8 = .ok (.ireturn, 1) := by decide +kernel
theorem dX4_row_9 : decode cX4_row 9 = .ok (.iload_n 2, 1) := by decide +kernel
theorem dX4_row_10 : decode cX4_row 10 = .ok (.ifCond .lt 8, 3) := by decide +kernel
theorem dX4_row_13 : decode cX4_row 13 = .ok (.iload_n 2, 1) := by decide +kernel
theorem dX4_row_14 : decode cX4_row 14 = .ok (.iconst 5, 1) := by decide +kernel
theorem dX4_row_15 : decode cX4_row 15 = .ok (.if_icmp .lt 6, 3) := by decide +kernel
theorem dX4_row_18 : decode cX4_row 18 = .ok (.bipush (-2), 2) := by decide +kernel
theorem dX4_row_20 : decode cX4_row 20 = .ok (.ireturn, 1) := by decide +kernel
theorem dX4_row_21 : decode cX4_row 21 = .ok (.aload_n 0, 1) := by decide +kernel
theorem dX4_row_22 : decode cX4_row 22 = .ok (.getfield 22, 3) := by decide +kernel
theorem dX4_row_25 : decode cX4_row 25 = .ok (.aload_n 0, 1) := by decide +kernel
theorem dX4_row_26 : decode cX4_row 26 = .ok (.getfield 10, 3) := by decide +kernel
theorem dX4_row_29 : decode cX4_row 29 = .ok (.invokevirtual 98, 3) := by decide +kernel
theorem dX4_row_32 : decode cX4_row 32 = .ok (.iconst 0, 1) := by decide +kernel
theorem dX4_row_33 : decode cX4_row 33 = .ok (.istore_n 3, 1) := by decide +kernel
theorem dX4_row_34 : decode cX4_row 34 = .ok (.iconst 0, 1) := by decide +kernel
theorem dX4_row_35 : decode cX4_row 35 = .ok (.istore 4, 2) := by decide +kernel
theorem dX4_row_37 : decode cX4_row 37 = .ok (.iload 4, 2) := by decide +kernel
theorem dX4_row_39 : decode cX4_row 39 = .ok (.bipush 8, 2) := by decide +kernel
theorem dX4_row_41 : decode cX4_row 41 = .ok (.if_icmp .ge 35, 3) := by decide +kernel
theorem dX4_row_44 : decode cX4_row 44 = .ok (.aload_n 0, 1) := by decide +kernel
theorem dX4_row_45 : decode cX4_row 45 = .ok (.getfield 22, 3) := by decide +kernel
theorem dX4_row_48 : decode cX4_row 48 = .ok (.getfield 125, 3) := by decide +kernel
theorem dX4_row_51 : decode cX4_row 51 = .ok (.bipush 8, 2) := by decide +kernel
theorem dX4_row_53 : decode cX4_row 53 = .ok (.iload_n 1, 1) := by decide +kernel
theorem dX4_row_54 : decode cX4_row 54 = .ok (.imul, 1) := by decide +kernel
theorem dX4_row_55 : decode cX4_row 55 = .ok (.iload 4, 2) := by decide +kernel
theorem dX4_row_57 : decode cX4_row 57 = .ok (.iadd, 1) := by decide +kernel
theorem dX4_row_58 : decode cX4_row 58 = .ok (.iaload, 1) := by decide +kernel
theorem dX4_row_59 : decode cX4_row 59 = .ok (.iload_n 2, 1) := by decide +kernel
theorem dX4_row_60 : decode cX4_row 60 = .ok (.if_icmp .ne 10, 3) := by decide +kernel
theorem dX4_row_63 : decode cX4_row 63 = .ok (.iload_n 3, 1) := by decide +kernel
theorem dX4_row_64 : decode cX4_row 64 = .ok (.iconst 1, 1) := by decide +kernel
theorem dX4_row_65 : decode cX4_row 65 = .ok (.iload 4, 2) := by decide +kernel
theorem dX4_row_67 : decode cX4_row 67 = .ok (.ishl, 1) := by decide +kernel
theorem dX4_row_68 : decode cX4_row 68 = .ok (.ior, 1) := by decide +kernel
theorem dX4_row_69 : decode cX4_row 69 = .ok (.istore_n 3, 1) := by decide +kernel
theorem dX4_row_70 : decode cX4_row 70 = .ok (.iinc 4 1, 3) := by decide +kernel
theorem dX4_row_73 : decode cX4_row 73 = .ok (.goto (-36), 3) := by decide +kernel
theorem dX4_row_76 : decode cX4_row 76 = .ok (.iload_n 3, 1) := by decide +kernel
theorem dX4_row_77 : decode cX4_row 77 = .ok (.ireturn, 1) := by decide +kernel
set_option maxRecDepth 20000 in
theorem ggX4_bestScreen_X2_copyFrom : GoodIn wsX4_bestScreen wsX2_copyFrom := goodIn_r _ [10, 11, 12, 13, 14, 15, 16, 17, 18, 19, 81, 82, 83, 84, 85] (by decide +kernel) (by decide +kernel)
set_option maxRecDepth 20000 in
theorem gX4_bestScreen_X2_copyFrom : GoodIn wsX4_bestScreen (wsV RX4 153 RX2 yX2_copyFrom wsX2_copyFrom) := goodIn_app (goodIn_of _ (by decide +kernel)) ggX4_bestScreen_X2_copyFrom
set_option maxRecDepth 20000 in
theorem ggX4_bestScreen_X3_clearPixels : GoodIn wsX4_bestScreen wsX3_clearPixels := goodIn_r _ [24, 25, 26, 27, 28, 29, 23, 30, 31, 32, 33, 34, 35, 9, 36, 16, 19, 37, 38, 39, 40, 41, 42, 43, 44, 45, 46, 47, 48, 49, 50, 51, 52, 53, 54, 55, 56, 57, 58, 59, 60, 61, 62, 63, 64, 65, 66, 67, 68, 69, 70, 71, 72, 73, 86, 87, 88, 89, 90, 91, 92, 93, 94, 95, 81, 82, 83, 84, 85] (by decide +kernel) (by decide +kernel)
set_option maxRecDepth 20000 in
theorem gX4_bestScreen_X3_clearPixels : GoodIn wsX4_bestScreen (wsV RX4 156 RX3 yX3_clearPixels wsX3_clearPixels) := goodIn_app (goodIn_of _ (by decide +kernel)) ggX4_bestScreen_X3_clearPixels
theorem dX4_bestScreen_0 : decode cX4_bestScreen 0 = .ok (.iload_n 1, 1) := by decide +kernel
theorem dX4_bestScreen_1 : decode cX4_bestScreen 1 = .ok (.ifCond .eq 11, 3) := by decide +kernel
theorem dX4_bestScreen_4 : decode cX4_bestScreen 4 = .ok (.iload_n 1, 1) := by decide +kernel
theorem dX4_bestScreen_5 : decode cX4_bestScreen 5 = .ok (.iconst 1, 1) := by decide +kernel
theorem dX4_bestScreen_6 : decode cX4_bestScreen 6 = .ok (.if_icmp .eq 6, 3) := by decide +kernel
theorem dX4_bestScreen_9 : decode cX4_bestScreen 9 = .ok (.bipush (-2), 2) := by decide +kernel
theorem dX4_bestScreen_11 : decode cX4_bestScreen 11 = .ok (.ireturn, 1) := by decide +kernel
theorem dX4_bestScreen_12 : decode cX4_bestScreen 12 = .ok (.aload_n 0, 1) := by decide +kernel
theorem dX4_bestScreen_13 : decode cX4_bestScreen 13 = .ok (.getfield 16, 3) := by decide +kernel
theorem dX4_bestScreen_16 : decode cX4_bestScreen 16 = .ok (.aload_n 0, 1) := by decide +kernel
theorem dX4_bestScreen_17 : decode cX4_bestScreen 17 = .ok (.getfield 10, 3) := by decide +kernel
theorem dX4_bestScreen_20 : decode cX4_bestScreen 20 = .ok (.invokevirtual 153, 3) := by decide +kernel
theorem dX4_bestScreen_23 : decode cX4_bestScreen 23 = .ok (.iconst 0, 1) := by decide +kernel
theorem dX4_bestScreen_24 : decode cX4_bestScreen 24 = .ok (.istore_n 2, 1) := by decide +kernel
theorem dX4_bestScreen_25 : decode cX4_bestScreen 25 = .ok (.iconst (-1), 1) := by decide +kernel
theorem dX4_bestScreen_26 : decode cX4_bestScreen 26 = .ok (.istore_n 3, 1) := by decide +kernel
theorem dX4_bestScreen_27 : decode cX4_bestScreen 27 = .ok (.iconst 0, 1) := by decide +kernel
theorem dX4_bestScreen_28 : decode cX4_bestScreen 28 = .ok (.istore 4, 2) := by decide +kernel
theorem dX4_bestScreen_30 : decode cX4_bestScreen 30 = .ok (.iload 4, 2) := by decide +kernel
theorem dX4_bestScreen_32 : decode cX4_bestScreen 32 = .ok (.bipush 48, 2) := by decide +kernel
theorem dX4_bestScreen_34 : decode cX4_bestScreen 34 = .ok (.if_icmp .ge 51, 3) := by decide +kernel
theorem dX4_bestScreen_37 : decode cX4_bestScreen 37 = .ok (.aload_n 0, 1) := by decide +kernel
theorem dX4_bestScreen_38 : decode cX4_bestScreen 38 = .ok (.getfield 16, 3) := by decide +kernel
theorem dX4_bestScreen_41 : decode cX4_bestScreen 41 = .ok (.aload_n 0, 1) := by decide +kernel
theorem dX4_bestScreen_42 : decode cX4_bestScreen 42 = .ok (.getfield 10, 3) := by decide +kernel
theorem dX4_bestScreen_45 : decode cX4_bestScreen 45 = .ok (.getfield 105, 3) := by decide +kernel
theorem dX4_bestScreen_48 : decode cX4_bestScreen 48 = .ok (.iload 4, 2) := by decide +kernel
theorem dX4_bestScreen_50 : decode cX4_bestScreen 50 = .ok (.iaload, 1) := by decide +kernel
theorem dX4_bestScreen_51 : decode cX4_bestScreen 51 = .ok (.putfield 62, 3) := by decide +kernel
theorem dX4_bestScreen_54 : decode cX4_bestScreen 54 = .ok (.aload_n 0, 1) := by decide +kernel
theorem dX4_bestScreen_55 : decode cX4_bestScreen 55 = .ok (.getfield 26, 3) := by decide +kernel
theorem dX4_bestScreen_58 : decode cX4_bestScreen 58 = .ok (.aload_n 0, 1) := by decide +kernel
theorem dX4_bestScreen_59 : decode cX4_bestScreen 59 = .ok (.getfield 16, 3) := by decide +kernel
theorem dX4_bestScreen_62 : decode cX4_bestScreen 62 = .ok (.invokevirtual 156, 3) := by decide +kernel
theorem dX4_bestScreen_65 : decode cX4_bestScreen 65 = .ok (.istore 5, 2) := by decide +kernel
theorem dX4_bestScreen_67 : decode cX4_bestScreen 67 = .ok (.iload 5, 2) := by decide +kernel
theorem dX4_bestScreen_69 : decode cX4_bestScreen 69 = .ok (.iload_n 3, 1) := by decide +kernel
theorem dX4_bestScreen_70 : decode cX4_bestScreen 70 = .ok (.if_icmp .le 9, 3) := by decide +kernel
theorem dX4_bestScreen_73 : decode cX4_bestScreen 73 = .ok (.iload 4, 2) := by decide +kernel
theorem dX4_bestScreen_75 : decode cX4_bestScreen 75 = .ok (.istore_n 2, 1) := by decide +kernel
theorem dX4_bestScreen_76 : decode cX4_bestScreen 76 = .ok (.iload 5, 2) := by decide +kernel
theorem dX4_bestScreen_78 : decode cX4_bestScreen 78 = .ok (.istore_n 3, 1) := by decide +kernel
theorem dX4_bestScreen_79 : decode cX4_bestScreen 79 = .ok (.iinc 4 1, 3) := by decide +kernel
theorem dX4_bestScreen_82 : decode cX4_bestScreen 82 = .ok (.goto (-52), 3) := by decide +kernel
theorem dX4_bestScreen_85 : decode cX4_bestScreen 85 = .ok (.iload_n 1, 1) := by decide +kernel
theorem dX4_bestScreen_86 : decode cX4_bestScreen 86 = .ok (.ifCond .ne 7, 3) := by decide +kernel
theorem dX4_bestScreen_89 : decode cX4_bestScreen 89 = .ok (.iload_n 2, 1) := by decide +kernel
theorem dX4_bestScreen_90 : decode cX4_bestScreen 90 = .ok (.goto 4, 3) := by decide +kernel
theorem dX4_bestScreen_93 : decode cX4_bestScreen 93 = .ok (.iload_n 3, 1) := by decide +kernel
theorem dX4_bestScreen_94 : decode cX4_bestScreen 94 = .ok (.ireturn, 1) := by decide +kernel
set_option maxRecDepth 20000 in
theorem ggX4_leastNear_X4_isPixel : GoodIn wsX4_leastNear wsX4_isPixel := goodIn_r _ [6] (by decide +kernel) (by decide +kernel)
set_option maxRecDepth 20000 in
theorem gX4_leastNear_X4_isPixel : GoodIn wsX4_leastNear (va_wsS RX4 66 yX4_isPixel wsX4_isPixel) := goodIn_app (goodIn_of _ (by decide +kernel)) ggX4_leastNear_X4_isPixel
set_option maxRecDepth 20000 in
theorem ggX4_leastNear_X2_distanceOf : GoodIn wsX4_leastNear wsX2_distanceOf := goodIn_r _ [11, 12, 13, 4, 5, 6, 14, 15, 16, 17, 18, 19, 20, 21, 22, 23, 24, 25, 33, 34, 35, 36, 37] (by decide +kernel) (by decide +kernel)
set_option maxRecDepth 20000 in
theorem gX4_leastNear_X2_distanceOf : GoodIn wsX4_leastNear (wsV RX4 115 RX2 yX2_distanceOf wsX2_distanceOf) := goodIn_app (goodIn_of _ (by decide +kernel)) ggX4_leastNear_X2_distanceOf
theorem dX4_leastNear_0 : decode cX4_leastNear 0 = .ok (.iload_n 1, 1) := by decide +kernel
theorem dX4_leastNear_1 : decode cX4_leastNear 1 = .ok (.invokestatic 66, 3) := by decide +kernel
theorem dX4_leastNear_4 : decode cX4_leastNear 4 = .ok (.ifCond .ne 5, 3) := by decide +kernel
theorem dX4_leastNear_7 : decode cX4_leastNear 7 = .ok (.iconst (-1), 1) := by decide +kernel
theorem dX4_leastNear_8 : decode cX4_leastNear 8 = .ok (.ireturn, 1) := by decide +kernel
theorem dX4_leastNear_9 : decode cX4_leastNear 9 = .ok (.aload_n 0, 1) := by decide +kernel
theorem dX4_leastNear_10 : decode cX4_leastNear 10 = .ok (.getfield 10, 3) := by decide +kernel
theorem dX4_leastNear_13 : decode cX4_leastNear 13 = .ok (.iload_n 1, 1) := by decide +kernel
theorem dX4_leastNear_14 : decode cX4_leastNear 14 = .ok (.invokevirtual 115, 3) := by decide +kernel
theorem dX4_leastNear_17 : decode cX4_leastNear 17 = .ok (.istore_n 2, 1) := by decide +kernel
theorem dX4_leastNear_18 : decode cX4_leastNear 18 = .ok (.iload_n 2, 1) := by decide +kernel
theorem dX4_leastNear_19 : decode cX4_leastNear 19 = .ok (.aload_n 0, 1) := by decide +kernel
theorem dX4_leastNear_20 : decode cX4_leastNear 20 = .ok (.getfield 10, 3) := by decide +kernel
theorem dX4_leastNear_23 : decode cX4_leastNear 23 = .ok (.getfield 137, 3) := by decide +kernel
theorem dX4_leastNear_26 : decode cX4_leastNear 26 = .ok (.iconst 1, 1) := by decide +kernel
theorem dX4_leastNear_27 : decode cX4_leastNear 27 = .ok (.iaload, 1) := by decide +kernel
theorem dX4_leastNear_28 : decode cX4_leastNear 28 = .ok (.if_icmp .ge 7, 3) := by decide +kernel
theorem dX4_leastNear_31 : decode cX4_leastNear 31 = .ok (.iload_n 2, 1) := by decide +kernel
theorem dX4_leastNear_32 : decode cX4_leastNear 32 = .ok (.goto 5, 3) := by decide +kernel
theorem dX4_leastNear_35 : decode cX4_leastNear 35 = .ok (.bipush (-6), 2) := by decide +kernel
theorem dX4_leastNear_37 : decode cX4_leastNear 37 = .ok (.ireturn, 1) := by decide +kernel
set_option maxRecDepth 20000 in
theorem ggX4_ifSet_X4_errorOfSetting : GoodIn wsX4_ifSet wsX4_errorOfSetting := goodIn_r _ [10, 11, 2, 12, 13, 14, 9, 15, 126, 127, 128, 129, 130, 131, 132, 143, 144, 145, 146, 147] (by decide +kernel) (by decide +kernel)
set_option maxRecDepth 20000 in
theorem gX4_ifSet_X4_errorOfSetting : GoodIn wsX4_ifSet (wsV RX4 47 RX4 yX4_errorOfSetting wsX4_errorOfSetting) := goodIn_app (goodIn_of _ (by decide +kernel)) ggX4_ifSet_X4_errorOfSetting
set_option maxRecDepth 20000 in
theorem ggX4_ifSet_X2_copyFrom : GoodIn wsX4_ifSet wsX2_copyFrom := goodIn_r _ [20, 21, 22, 23, 24, 25, 26, 27, 28, 29, 143, 144, 145, 146, 147] (by decide +kernel) (by decide +kernel)
set_option maxRecDepth 20000 in
theorem gX4_ifSet_X2_copyFrom : GoodIn wsX4_ifSet (wsV RX4 153 RX2 yX2_copyFrom wsX2_copyFrom) := goodIn_app (goodIn_of _ (by decide +kernel)) ggX4_ifSet_X2_copyFrom
set_option maxRecDepth 20000 in
theorem ggX4_ifSet_X2_changeSetting : GoodIn wsX4_ifSet wsX2_changeSetting := goodIn_r _ [33, 21, 14, 9, 15, 143, 144, 145, 146, 147] (by decide +kernel) (by decide +kernel)
set_option maxRecDepth 20000 in
theorem gX4_ifSet_X2_changeSetting : GoodIn wsX4_ifSet (wsV RX4 55 RX2 yX2_changeSetting wsX2_changeSetting) := goodIn_app (goodIn_of _ (by decide +kernel)) ggX4_ifSet_X2_changeSetting
set_option maxRecDepth 20000 in
theorem ggX4_ifSet_X3_show : GoodIn wsX4_ifSet wsX3_show := goodIn_r _ [38, 39, 40, 41, 37, 42, 43, 44, 45, 46, 47, 48, 19, 49, 26, 29, 50, 9, 51, 52, 53, 54, 55, 56, 57, 58, 59, 60, 61, 62, 63, 64, 65, 66, 67, 68, 69, 70, 71, 72, 73, 74, 75, 76, 77, 78, 79, 80, 81, 82, 83, 84, 85, 86, 87, 88, 89, 90, 91, 92, 93, 94, 95, 96, 97, 98, 99, 100, 101, 102, 103, 104, 105, 106, 107, 108, 109, 110, 111, 112, 113, 114, 115, 116, 117, 118, 119, 120, 121, 122, 143, 144, 145, 146, 147, 133, 134, 135, 136, 137, 138, 139, 140, 141, 142] (by decide +kernel) (by decide +kernel)
set_option maxRecDepth 20000 in
theorem gX4_ifSet_X3_show : GoodIn wsX4_ifSet (wsV RX4 98 RX3 yX3_show wsX3_show) := goodIn_app (goodIn_of _ (by decide +kernel)) ggX4_ifSet_X3_show
set_option maxRecDepth 20000 in
theorem ggX4_ifSet_X4_sameColours : GoodIn wsX4_ifSet wsX4_sameColours := goodIn_r _ [125] (by decide +kernel) (by decide +kernel)
set_option maxRecDepth 20000 in
theorem gX4_ifSet_X4_sameColours : GoodIn wsX4_ifSet (va_wsS RX4 108 yX4_sameColours wsX4_sameColours) := goodIn_app (goodIn_of _ (by decide +kernel)) ggX4_ifSet_X4_sameColours
theorem dX4_ifSet_0 : decode cX4_ifSet 0 = .ok (.aload_n 0, 1) := by decide +kernel
theorem dX4_ifSet_1 : decode cX4_ifSet 1 = .ok (.iload_n 1, 1) := by decide +kernel
theorem dX4_ifSet_2 : decode cX4_ifSet 2 = .ok (.iload_n 2, 1) := by decide +kernel
theorem dX4_ifSet_3 : decode cX4_ifSet 3 = .ok (.invokevirtual 47, 3) := by decide +kernel
theorem dX4_ifSet_6 : decode cX4_ifSet 6 = .ok (.istore_n 3, 1) := by decide +kernel
theorem dX4_ifSet_7 : decode cX4_ifSet 7 = .ok (.iload_n 3, 1) := by decide +kernel
theorem dX4_ifSet_8 : decode cX4_ifSet 8 = .ok (.ifCond .eq 5, 3) := by decide +kernel
theorem dX4_ifSet_11 : decode cX4_ifSet 11 = .ok (.iload_n 3, 1) := by decide +kernel
theorem dX4_ifSet_12 : decode cX4_ifSet 12 = .ok (.ireturn, 1) := by decide +kernel
theorem dX4_ifSet_13 : decode cX4_ifSet 13 = .ok (.aload_n 0, 1) := by decide +kernel
theorem dX4_ifSet_14 : decode cX4_ifSet 14 = .ok (.getfield 16, 3) := by decide +kernel
theorem dX4_ifSet_17 : decode cX4_ifSet 17 = .ok (.aload_n 0, 1) := by decide +kernel
theorem dX4_ifSet_18 : decode cX4_ifSet 18 = .ok (.getfield 10, 3) := by decide +kernel
theorem dX4_ifSet_21 : decode cX4_ifSet 21 = .ok (.invokevirtual 153, 3) := by decide +kernel
theorem dX4_ifSet_24 : decode cX4_ifSet 24 = .ok (.aload_n 0, 1) := by decide +kernel
theorem dX4_ifSet_25 : decode cX4_ifSet 25 = .ok (.getfield 16, 3) := by decide +kernel
theorem dX4_ifSet_28 : decode cX4_ifSet 28 = .ok (.iload_n 1, 1) := by decide +kernel
theorem dX4_ifSet_29 : decode cX4_ifSet 29 = .ok (.iload_n 2, 1) := by decide +kernel
theorem dX4_ifSet_30 : decode cX4_ifSet 30 = .ok (.invokevirtual 55, 3) := by decide +kernel
theorem dX4_ifSet_33 : decode cX4_ifSet 33 = .ok (.pop, 1) := by decide +kernel
theorem dX4_ifSet_34 : decode cX4_ifSet 34 = .ok (.aload_n 0, 1) := by decide +kernel
theorem dX4_ifSet_35 : decode cX4_ifSet 35 = .ok (.getfield 22, 3) := by decide +kernel
theorem dX4_ifSet_38 : decode cX4_ifSet 38 = .ok (.aload_n 0, 1) := by decide +kernel
theorem dX4_ifSet_39 : decode cX4_ifSet 39 = .ok (.getfield 10, 3) := by decide +kernel
theorem dX4_ifSet_42 : decode cX4_ifSet 42 = .ok (.invokevirtual 98, 3) := by decide +kernel
theorem dX4_ifSet_45 : decode cX4_ifSet 45 = .ok (.aload_n 0, 1) := by decide +kernel
theorem dX4_ifSet_46 : decode cX4_ifSet 46 = .ok (.getfield 26, 3) := by decide +kernel
theorem dX4_ifSet_49 : decode cX4_ifSet 49 = .ok (.aload_n 0, 1) := by decide +kernel
theorem dX4_ifSet_50 : decode cX4_ifSet 50 = .ok (.getfield 16, 3) := by decide +kernel
theorem dX4_ifSet_53 : decode cX4_ifSet 53 = .ok (.invokevirtual 98, 3) := by decide +kernel
theorem dX4_ifSet_56 : decode cX4_ifSet 56 = .ok (.bipush 48, 2) := by decide +kernel
theorem dX4_ifSet_58 : decode cX4_ifSet 58 = .ok (.aload_n 0, 1) := by decide +kernel
theorem dX4_ifSet_59 : decode cX4_ifSet 59 = .ok (.getfield 22, 3) := by decide +kernel
theorem dX4_ifSet_62 : decode cX4_ifSet 62 = .ok (.getfield 101, 3) := by decide +kernel
theorem dX4_ifSet_65 : decode cX4_ifSet 65 = .ok (.aload_n 0, 1) := by decide +kernel
theorem dX4_ifSet_66 : decode cX4_ifSet 66 = .ok (.getfield 26, 3) := by decide +kernel
theorem dX4_ifSet_69 : decode cX4_ifSet 69 = .ok (.getfield 101, 3) := by decide +kernel
theorem dX4_ifSet_72 : decode cX4_ifSet 72 = .ok (.invokestatic 108, 3) := by decide +kernel
theorem dX4_ifSet_75 : decode cX4_ifSet 75 = .ok (.isub, 1) := by decide +kernel
theorem dX4_ifSet_76 : decode cX4_ifSet 76 = .ok (.ireturn, 1) := by decide +kernel
set_option maxRecDepth 20000 in
theorem ggX4_bestShare_X2_copyFrom : GoodIn wsX4_bestShare wsX2_copyFrom := goodIn_r _ [8, 9, 10, 11, 12, 13, 14, 15, 16, 17, 125, 126, 127, 128, 129] (by decide +kernel) (by decide +kernel)
set_option maxRecDepth 20000 in
theorem gX4_bestShare_X2_copyFrom : GoodIn wsX4_bestShare (wsV RX4 153 RX2 yX2_copyFrom wsX2_copyFrom) := goodIn_app (goodIn_of _ (by decide +kernel)) ggX4_bestShare_X2_copyFrom
set_option maxRecDepth 20000 in
theorem ggX4_bestShare_X2_changeSetting : GoodIn wsX4_bestShare wsX2_changeSetting := goodIn_r _ [21, 9, 22, 23, 24, 125, 126, 127, 128, 129] (by decide +kernel) (by decide +kernel)
set_option maxRecDepth 20000 in
theorem gX4_bestShare_X2_changeSetting : GoodIn wsX4_bestShare (wsV RX4 55 RX2 yX2_changeSetting wsX2_changeSetting) := goodIn_app (goodIn_of _ (by decide +kernel)) ggX4_bestShare_X2_changeSetting
set_option maxRecDepth 20000 in
theorem ggX4_bestShare_X3_show : GoodIn wsX4_bestShare wsX3_show := goodIn_r _ [29, 30, 31, 32, 28, 33, 34, 35, 36, 37, 38, 39, 7, 40, 14, 17, 41, 23, 42, 43, 44, 45, 46, 47, 48, 49, 50, 51, 52, 53, 54, 55, 56, 57, 58, 59, 60, 61, 62, 63, 64, 65, 66, 67, 68, 69, 70, 71, 72, 73, 74, 75, 76, 77, 78, 79, 80, 81, 82, 83, 84, 85, 86, 87, 88, 89, 90, 91, 92, 93, 94, 95, 96, 97, 98, 99, 100, 101, 102, 103, 104, 105, 106, 107, 108, 109, 110, 111, 112, 113, 125, 126, 127, 128, 129, 130, 131, 132, 133, 134, 135, 136, 137, 138, 139] (by decide +kernel) (by decide +kernel)
set_option maxRecDepth 20000 in
theorem gX4_bestShare_X3_show : GoodIn wsX4_bestShare (wsV RX4 98 RX3 yX3_show wsX3_show) := goodIn_app (goodIn_of _ (by decide +kernel)) ggX4_bestShare_X3_show
set_option maxRecDepth 20000 in
theorem ggX4_bestShare_X3_spillLeft : GoodIn wsX4_bestShare wsX3_spillLeft := goodIn_r _ [117, 95, 100, 102, 23, 103, 49, 50, 51, 52, 53, 54, 104, 105, 106, 107, 47, 108, 125, 126, 127, 128, 129, 130, 131, 132, 133, 134, 135, 136, 137, 138, 139] (by decide +kernel) (by decide +kernel)
set_option maxRecDepth 20000 in
theorem gX4_bestShare_X3_spillLeft : GoodIn wsX4_bestShare (wsV RX4 160 RX3 yX3_spillLeft wsX3_spillLeft) := goodIn_app (goodIn_of _ (by decide +kernel)) ggX4_bestShare_X3_spillLeft
theorem dX4_bestShare_0 : decode cX4_bestShare 0 = .ok (.iload_n 1, 1) := by decide +kernel
theorem dX4_bestShare_1 : decode cX4_bestShare 1 = .ok (.iconst 2, 1) := by decide +kernel
theorem dX4_bestShare_2 : decode cX4_bestShare 2 = .ok (.if_icmp .eq 13, 3) := by decide +kernel
theorem dX4_bestShare_5 : decode cX4_bestShare 5 = .ok (.iload_n 1, 1) := by decide +kernel
theorem dX4_bestShare_6 : decode cX4_bestShare 6 = .ok (.iconst 3, 1) := by decide +kernel
theorem dX4_bestShare_7 : decode cX4_bestShare 7 = .ok (.if_icmp .eq 8, 3) := by decide +kernel
theorem dX4_bestShare_10 : decode cX4_bestShare 10 = .ok (.iload_n 1, 1) := by decide +kernel
theorem dX4_bestShare_11 : decode cX4_bestShare 11 = .ok (.iconst 4, 1) := by decide +kernel
theorem dX4_bestShare_12 : decode cX4_bestShare 12 = .ok (.if_icmp .ne 7, 3) := by decide +kernel
theorem dX4_bestShare_15 : decode cX4_bestShare 15 = .ok (.iconst 1, 1) := by decide +kernel
theorem dX4_bestShare_16 : decode cX4_bestShare 16 = .ok (.goto 4, 3) := by decide +kernel
theorem dX4_bestShare_19 : decode cX4_bestShare 19 = .ok (.iconst 0, 1) := by decide +kernel
theorem dX4_bestShare_20 : decode cX4_bestShare 20 = .ok (.istore_n 3, 1) := by decide +kernel
theorem dX4_bestShare_21 : decode cX4_bestShare 21 = .ok (.iload_n 3, 1) := by decide +kernel
theorem dX4_bestShare_22 : decode cX4_bestShare 22 = .ok (.ifCond .eq 12, 3) := by decide +kernel
theorem dX4_bestShare_25 : decode cX4_bestShare 25 = .ok (.iload_n 2, 1) := by decide +kernel
theorem dX4_bestShare_26 : decode cX4_bestShare 26 = .ok (.ifCond .eq 11, 3) := by decide +kernel
theorem dX4_bestShare_29 : decode cX4_bestShare 29 = .ok (.iload_n 2, 1) := by decide +kernel
theorem dX4_bestShare_30 : decode cX4_bestShare 30 = .ok (.iconst 1, 1) := by decide +kernel
theorem dX4_bestShare_31 : decode cX4_bestShare 31 = .ok (.if_icmp .eq 6, 3) := by decide +kernel
theorem dX4_bestShare_34 : decode cX4_bestShare 34 = .ok (.bipush (-2), 2) := by decide +kernel
theorem dX4_bestShare_36 : decode cX4_bestShare 36 = .ok (.ireturn, 1) := by decide +kernel
theorem dX4_bestShare_37 : decode cX4_bestShare 37 = .ok (.aload_n 0, 1) := by decide +kernel
theorem dX4_bestShare_38 : decode cX4_bestShare 38 = .ok (.getfield 16, 3) := by decide +kernel
theorem dX4_bestShare_41 : decode cX4_bestShare 41 = .ok (.aload_n 0, 1) := by decide +kernel
theorem dX4_bestShare_42 : decode cX4_bestShare 42 = .ok (.getfield 10, 3) := by decide +kernel
theorem dX4_bestShare_45 : decode cX4_bestShare 45 = .ok (.invokevirtual 153, 3) := by decide +kernel
theorem dX4_bestShare_48 : decode cX4_bestShare 48 = .ok (.iconst 0, 1) := by decide +kernel
theorem dX4_bestShare_49 : decode cX4_bestShare 49 = .ok (.istore 4, 2) := by decide +kernel
theorem dX4_bestShare_51 : decode cX4_bestShare 51 = .ok (.iconst 0, 1) := by decide +kernel
theorem dX4_bestShare_52 : decode cX4_bestShare 52 = .ok (.istore 5, 2) := by decide +kernel
theorem dX4_bestShare_54 : decode cX4_bestShare 54 = .ok (.iconst 0, 1) := by decide +kernel
theorem dX4_bestShare_55 : decode cX4_bestShare 55 = .ok (.istore 6, 2) := by decide +kernel
theorem dX4_bestShare_57 : decode cX4_bestShare 57 = .ok (.iload 6, 2) := by decide +kernel
theorem dX4_bestShare_59 : decode cX4_bestShare 59 = .ok (.bipush 16, 2) := by decide +kernel
theorem dX4_bestShare_61 : decode cX4_bestShare 61 = .ok (.if_icmp .gt 64, 3) := by decide +kernel
theorem dX4_bestShare_64 : decode cX4_bestShare 64 = .ok (.aload_n 0, 1) := by decide +kernel
theorem dX4_bestShare_65 : decode cX4_bestShare 65 = .ok (.getfield 16, 3) := by decide +kernel
theorem dX4_bestShare_68 : decode cX4_bestShare 68 = .ok (.iload_n 1, 1) := by decide +kernel
theorem dX4_bestShare_69 : decode cX4_bestShare 69 = .ok (.iload 6, 2) := by decide +kernel
theorem dX4_bestShare_71 : decode cX4_bestShare 71 = .ok (.invokevirtual 55, 3) := by decide +kernel
theorem dX4_bestShare_74 : decode cX4_bestShare 74 = .ok (.pop, 1) := by decide +kernel
theorem dX4_bestShare_75 : decode cX4_bestShare 75 = .ok (.aload_n 0, 1) := by decide +kernel
theorem dX4_bestShare_76 : decode cX4_bestShare 76 = .ok (.getfield 26, 3) := by decide +kernel
theorem dX4_bestShare_79 : decode cX4_bestShare 79 = .ok (.aload_n 0, 1) := by decide +kernel
theorem dX4_bestShare_80 : decode cX4_bestShare 80 = .ok (.getfield 16, 3) := by decide +kernel
theorem dX4_bestShare_83 : decode cX4_bestShare 83 = .ok (.invokevirtual 98, 3) := by decide +kernel
theorem dX4_bestShare_86 : decode cX4_bestShare 86 = .ok (.aload_n 0, 1) := by decide +kernel
theorem dX4_bestShare_87 : decode cX4_bestShare 87 = .ok (.getfield 26, 3) := by decide +kernel
theorem dX4_bestShare_90 : decode cX4_bestShare 90 = .ok (.aload_n 0, 1) := by decide +kernel
theorem dX4_bestShare_91 : decode cX4_bestShare 91 = .ok (.getfield 16, 3) := by decide +kernel
theorem dX4_bestShare_94 : decode cX4_bestShare 94 = .ok (.invokevirtual 160, 3) := by decide +kernel
theorem dX4_bestShare_97 : decode cX4_bestShare 97 = .ok (.istore 7, 2) := by decide +kernel
theorem dX4_bestShare_99 : decode cX4_bestShare 99 = .ok (.iload 6, 2) := by decide +kernel
theorem dX4_bestShare_101 : decode cX4_bestShare 101 = .ok (.ifCond .eq 10, 3) := by decide +kernel
theorem dX4_bestShare_104 : decode cX4_bestShare 104 = .ok (.iload 7, 2) := by decide +kernel
theorem dX4_bestShare_106 : decode cX4_bestShare 106 = .ok (.iload 5, 2) := by decide +kernel
theorem dX4_bestShare_108 : decode cX4_bestShare 108 = .ok (.if_icmp .ge 11, 3) := by decide +kernel
theorem dX4_bestShare_111 : decode cX4_bestShare 111 = .ok (.iload 6, 2) := by decide +kernel
theorem dX4_bestShare_113 : decode cX4_bestShare 113 = .ok (.istore 4, 2) := by decide +kernel
theorem dX4_bestShare_115 : decode cX4_bestShare 115 = .ok (.iload 7, 2) := by decide +kernel
theorem dX4_bestShare_117 : decode cX4_bestShare 117 = .ok (.istore 5, 2) := by decide +kernel
theorem dX4_bestShare_119 : decode cX4_bestShare 119 = .ok (.iinc 6 1, 3) := by decide +kernel
theorem dX4_bestShare_122 : decode cX4_bestShare 122 = .ok (.goto (-65), 3) := by decide +kernel
theorem dX4_bestShare_125 : decode cX4_bestShare 125 = .ok (.iload_n 2, 1) := by decide +kernel
theorem dX4_bestShare_126 : decode cX4_bestShare 126 = .ok (.ifCond .ne 8, 3) := by decide +kernel
theorem dX4_bestShare_129 : decode cX4_bestShare 129 = .ok (.iload 4, 2) := by decide +kernel
theorem dX4_bestShare_131 : decode cX4_bestShare 131 = .ok (.goto 5, 3) := by decide +kernel
theorem dX4_bestShare_134 : decode cX4_bestShare 134 = .ok (.iload 5, 2) := by decide +kernel
theorem dX4_bestShare_136 : decode cX4_bestShare 136 = .ok (.ireturn, 1) := by decide +kernel
set_option maxRecDepth 20000 in
theorem ggX4_put_X4_charactersIn : GoodIn wsX4_put wsX4_charactersIn := goodIn_r _ [6, 7] (by decide +kernel) (by decide +kernel)
set_option maxRecDepth 20000 in
theorem gX4_put_X4_charactersIn : GoodIn wsX4_put (va_wsS RX4 163 yX4_charactersIn wsX4_charactersIn) := goodIn_app (goodIn_of _ (by decide +kernel)) ggX4_put_X4_charactersIn
set_option maxRecDepth 20000 in
theorem ggX4_put_X1_append : GoodIn wsX4_put wsX1_append := goodIn_r _ [12, 13, 14, 15, 23, 24] (by decide +kernel) (by decide +kernel)
set_option maxRecDepth 20000 in
theorem gX4_put_X1_append : GoodIn wsX4_put (wsV RX4 167 RX1 yX1_append wsX1_append) := goodIn_app (goodIn_of _ (by decide +kernel)) ggX4_put_X1_append
theorem dX4_put_0 : decode cX4_put 0 = .ok (.lload_n 1, 1) := by decide +kernel
theorem dX4_put_1 : decode cX4_put 1 = .ok (.invokestatic 163, 3) := by decide +kernel
theorem dX4_put_4 : decode cX4_put 4 = .ok (.istore_n 3, 1) := by decide +kernel
theorem dX4_put_5 : decode cX4_put 5 = .ok (.iload_n 3, 1) := by decide +kernel
theorem dX4_put_6 : decode cX4_put 6 = .ok (.ifCond .ne 6, 3) := by decide +kernel
theorem dX4_put_9 : decode cX4_put 9 = .ok (.bipush (-2), 2) := by decide +kernel
theorem dX4_put_11 : decode cX4_put 11 = .ok (.ireturn, 1) := by decide +kernel
theorem dX4_put_12 : decode cX4_put 12 = .ok (.aload_n 0, 1) := by decide +kernel
theorem dX4_put_13 : decode cX4_put 13 = .ok (.getfield 32, 3) := by decide +kernel
theorem dX4_put_16 : decode cX4_put 16 = .ok (.getfield 88, 3) := by decide +kernel
theorem dX4_put_19 : decode cX4_put 19 = .ok (.iload_n 3, 1) := by decide +kernel
theorem dX4_put_20 : decode cX4_put 20 = .ok (.iadd, 1) := by decide +kernel
theorem dX4_put_21 : decode cX4_put 21 = .ok (.bipush 48, 2) := by decide +kernel
theorem dX4_put_23 : decode cX4_put 23 = .ok (.if_icmp .le 6, 3) := by decide +kernel
theorem dX4_put_26 : decode cX4_put 26 = .ok (.bipush (-4), 2) := by decide +kernel
theorem dX4_put_28 : decode cX4_put 28 = .ok (.ireturn, 1) := by decide +kernel
theorem dX4_put_29 : decode cX4_put 29 = .ok (.aload_n 0, 1) := by decide +kernel
theorem dX4_put_30 : decode cX4_put 30 = .ok (.getfield 32, 3) := by decide +kernel
theorem dX4_put_33 : decode cX4_put 33 = .ok (.lload_n 1, 1) := by decide +kernel
theorem dX4_put_34 : decode cX4_put 34 = .ok (.iload_n 3, 1) := by decide +kernel
theorem dX4_put_35 : decode cX4_put 35 = .ok (.invokevirtual 167, 3) := by decide +kernel
theorem dX4_put_38 : decode cX4_put 38 = .ok (.aload_n 0, 1) := by decide +kernel
theorem dX4_put_39 : decode cX4_put 39 = .ok (.getfield 32, 3) := by decide +kernel
theorem dX4_put_42 : decode cX4_put 42 = .ok (.getfield 88, 3) := by decide +kernel
theorem dX4_put_45 : decode cX4_put 45 = .ok (.ireturn, 1) := by decide +kernel
theorem dX4_wipe_0 : decode cX4_wipe 0 = .ok (.aload_n 0, 1) := by decide +kernel
theorem dX4_wipe_1 : decode cX4_wipe 1 = .ok (.getfield 32, 3) := by decide +kernel
theorem dX4_wipe_4 : decode cX4_wipe 4 = .ok (.getfield 88, 3) := by decide +kernel
theorem dX4_wipe_7 : decode cX4_wipe 7 = .ok (.istore_n 1, 1) := by decide +kernel
theorem dX4_wipe_8 : decode cX4_wipe 8 = .ok (.aload_n 0, 1) := by decide +kernel
theorem dX4_wipe_9 : decode cX4_wipe 9 = .ok (.getfield 32, 3) := by decide +kernel
theorem dX4_wipe_12 : decode cX4_wipe 12 = .ok (.iconst 0, 1) := by decide +kernel
theorem dX4_wipe_13 : decode cX4_wipe 13 = .ok (.putfield 88, 3) := by decide +kernel
theorem dX4_wipe_16 : decode cX4_wipe 16 = .ok (.iload_n 1, 1) := by decide +kernel
theorem dX4_wipe_17 : decode cX4_wipe 17 = .ok (.ireturn, 1) := by decide +kernel
set_option maxRecDepth 20000 in
theorem ggX4_fault_X1_firstFault : GoodIn wsX4_fault wsX1_firstFault := goodIn_r _ [6, 7, 8, 9, 10, 5, 11, 19, 20] (by decide +kernel) (by decide +kernel)
set_option maxRecDepth 20000 in
theorem gX4_fault_X1_firstFault : GoodIn wsX4_fault (wsV RX4 80 RX1 yX1_firstFault wsX1_firstFault) := goodIn_app (goodIn_of _ (by decide +kernel)) ggX4_fault_X1_firstFault
theorem dX4_fault_0 : decode cX4_fault 0 = .ok (.aload_n 0, 1) := by decide +kernel
theorem dX4_fault_1 : decode cX4_fault 1 = .ok (.getfield 32, 3) := by decide +kernel
theorem dX4_fault_4 : decode cX4_fault 4 = .ok (.invokevirtual 80, 3) := by decide +kernel
theorem dX4_fault_7 : decode cX4_fault 7 = .ok (.ireturn, 1) := by decide +kernel
set_option maxRecDepth 20000 in
theorem ggX4_undo_X0_takeBack : GoodIn wsX4_undo wsX0_takeBack := goodIn_r _ [8, 9, 10, 11, 12, 13, 14, 15, 16, 17, 18, 19, 20, 21, 22, 23, 24, 25, 26, 27, 28, 29, 37, 38, 39, 40, 41, 42, 43, 44] (by decide +kernel) (by decide +kernel)
set_option maxRecDepth 20000 in
theorem gX4_undo_X0_takeBack : GoodIn wsX4_undo (wsV RX4 171 RX0 yX0_takeBack wsX0_takeBack) := goodIn_app (goodIn_of _ (by decide +kernel)) ggX4_undo_X0_takeBack
theorem dX4_undo_0 : decode cX4_undo 0 = .ok (.aload_n 0, 1) := by decide +kernel
theorem dX4_undo_1 : decode cX4_undo 1 = .ok (.getfield 39, 3) := by decide +kernel
theorem dX4_undo_4 : decode cX4_undo 4 = .ok (.getfield 150, 3) := by decide +kernel
theorem dX4_undo_7 : decode cX4_undo 7 = .ok (.ifCond .ne 6, 3) := by decide +kernel
theorem dX4_undo_10 : decode cX4_undo 10 = .ok (.bipush (-5), 2) := by decide +kernel
theorem dX4_undo_12 : decode cX4_undo 12 = .ok (.ireturn, 1) := by decide +kernel
theorem dX4_undo_13 : decode cX4_undo 13 = .ok (.aload_n 0, 1) := by decide +kernel
theorem dX4_undo_14 : decode cX4_undo 14 = .ok (.getfield 39, 3) := by decide +kernel
theorem dX4_undo_17 : decode cX4_undo 17 = .ok (.aload_n 0, 1) := by decide +kernel
theorem dX4_undo_18 : decode cX4_undo 18 = .ok (.getfield 10, 3) := by decide +kernel
theorem dX4_undo_21 : decode cX4_undo 21 = .ok (.invokevirtual 171, 3) := by decide +kernel
theorem dX4_undo_24 : decode cX4_undo 24 = .ok (.aload_n 0, 1) := by decide +kernel
theorem dX4_undo_25 : decode cX4_undo 25 = .ok (.getfield 39, 3) := by decide +kernel
theorem dX4_undo_28 : decode cX4_undo 28 = .ok (.getfield 150, 3) := by decide +kernel
theorem dX4_undo_31 : decode cX4_undo 31 = .ok (.ireturn, 1) := by decide +kernel
set_option maxRecDepth 20000 in
theorem ggX4_save_X4_isSlot : GoodIn wsX4_save wsX4_isSlot := goodIn_r _ [9] (by decide +kernel) (by decide +kernel)
set_option maxRecDepth 20000 in
theorem gX4_save_X4_isSlot : GoodIn wsX4_save (va_wsS RX4 174 yX4_isSlot wsX4_isSlot) := goodIn_app (goodIn_of _ (by decide +kernel)) ggX4_save_X4_isSlot
set_option maxRecDepth 20000 in
theorem ggX4_save_X2_init : GoodIn wsX4_save wsX2_init := goodIn_r _ [12, 13, 14, 15, 16, 17, 18, 19, 20, 21, 22, 23, 24, 25, 26, 42, 43, 44, 45, 46] (by decide +kernel) (by decide +kernel)
set_option maxRecDepth 20000 in
theorem gX4_save_X2_init : GoodIn wsX4_save (wsX2_init) := ggX4_save_X2_init
set_option maxRecDepth 20000 in
theorem ggX4_save_X2_copyFrom : GoodIn wsX4_save wsX2_copyFrom := goodIn_r _ [30, 17, 23, 24, 25, 26, 18, 19, 21, 22, 42, 43, 44, 45, 46] (by decide +kernel) (by decide +kernel)
set_option maxRecDepth 20000 in
theorem gX4_save_X2_copyFrom : GoodIn wsX4_save (wsV RX4 153 RX2 yX2_copyFrom wsX2_copyFrom) := goodIn_app (goodIn_of _ (by decide +kernel)) ggX4_save_X2_copyFrom
set_option maxRecDepth 20000 in
theorem ggX4_save_X2_marked : GoodIn wsX4_save wsX2_marked := goodIn_r _ [34, 21, 42, 43, 44, 45, 46] (by decide +kernel) (by decide +kernel)
set_option maxRecDepth 20000 in
theorem gX4_save_X2_marked : GoodIn wsX4_save (wsV RX4 95 RX2 yX2_marked wsX2_marked) := goodIn_app (goodIn_of _ (by decide +kernel)) ggX4_save_X2_marked
theorem dX4_save_0 : decode cX4_save 0 = .ok (.iload_n 1, 1) := by decide +kernel
theorem dX4_save_1 : decode cX4_save 1 = .ok (.invokestatic 174, 3) := by decide +kernel
theorem dX4_save_4 : decode cX4_save 4 = .ok (.ifCond .ne 6, 3) := by decide +kernel
theorem dX4_save_7 : decode cX4_save 7 = .ok (.bipush (-2), 2) := by decide +kernel
theorem dX4_save_9 : decode cX4_save 9 = .ok (.ireturn, 1) := by decide +kernel
theorem dX4_save_10 : decode cX4_save 10 = .ok (.aload_n 0, 1) := by decide +kernel
theorem dX4_save_11 : decode cX4_save 11 = .ok (.getfield 43, 3) := by decide +kernel
theorem dX4_save_14 : decode cX4_save 14 = .ok (.iload_n 1, 1) := by decide +kernel
theorem dX4_save_15 : decode cX4_save 15 = .ok (.aaload, 1) := by decide +kernel
theorem dX4_save_16 : decode cX4_save 16 = .ok (.astore_n 2, 1) := by decide +kernel
theorem dX4_save_17 : decode cX4_save 17 = .ok (.aload_n 2, 1) := by decide +kernel
theorem dX4_save_18 : decode cX4_save 18 = .ok (.ifnonnull 18, 3) := by decide +kernel
theorem dX4_save_21 : decode cX4_save 21 = .ok (.new 7, 3) := by decide +kernel
theorem dX4_save_24 : decode cX4_save 24 = .ok (.dup, 1) := by decide +kernel
theorem dX4_save_25 : decode cX4_save 25 = .ok (.invokespecial 9, 3) := by decide +kernel
theorem dX4_save_28 : decode cX4_save 28 = .ok (.astore_n 2, 1) := by decide +kernel
theorem dX4_save_29 : decode cX4_save 29 = .ok (.aload_n 0, 1) := by decide +kernel
theorem dX4_save_30 : decode cX4_save 30 = .ok (.getfield 43, 3) := by decide +kernel
theorem dX4_save_33 : decode cX4_save 33 = .ok (.iload_n 1, 1) := by decide +kernel
theorem dX4_save_34 : decode cX4_save 34 = .ok (.aload_n 2, 1) := by decide +kernel
theorem dX4_save_35 : decode cX4_save 35 = .ok (.aastore, 1) := by decide +kernel
theorem dX4_save_36 : decode cX4_save 36 = .ok (.aload_n 2, 1) := by decide +kernel
theorem dX4_save_37 : decode cX4_save 37 = .ok (.aload_n 0, 1) := by decide +kernel
theorem dX4_save_38 : decode cX4_save 38 = .ok (.getfield 10, 3) := by decide +kernel
theorem dX4_save_41 : decode cX4_save 41 = .ok (.invokevirtual 153, 3) := by decide +kernel
theorem dX4_save_44 : decode cX4_save 44 = .ok (.aload_n 0, 1) := by decide +kernel
theorem dX4_save_45 : decode cX4_save 45 = .ok (.getfield 10, 3) := by decide +kernel
theorem dX4_save_48 : decode cX4_save 48 = .ok (.invokevirtual 95, 3) := by decide +kernel
theorem dX4_save_51 : decode cX4_save 51 = .ok (.ireturn, 1) := by decide +kernel
set_option maxRecDepth 20000 in
theorem ggX4_restore_X4_isSlot : GoodIn wsX4_restore wsX4_isSlot := goodIn_r _ [7] (by decide +kernel) (by decide +kernel)
set_option maxRecDepth 20000 in
theorem gX4_restore_X4_isSlot : GoodIn wsX4_restore (va_wsS RX4 174 yX4_isSlot wsX4_isSlot) := goodIn_app (goodIn_of _ (by decide +kernel)) ggX4_restore_X4_isSlot
set_option maxRecDepth 20000 in
theorem ggX4_restore_X0_remember : GoodIn wsX4_restore wsX0_remember := goodIn_r _ [12, 13, 14, 15, 16, 17, 18, 19, 20, 21, 22, 23, 24, 25, 26, 27, 28, 29, 30, 31, 32, 33, 46, 47, 48, 49, 50, 51, 52, 53] (by decide +kernel) (by decide +kernel)
set_option maxRecDepth 20000 in
theorem gX4_restore_X0_remember : GoodIn wsX4_restore (wsV RX4 51 RX0 yX0_remember wsX0_remember) := goodIn_app (goodIn_of _ (by decide +kernel)) ggX4_restore_X0_remember
set_option maxRecDepth 20000 in
theorem ggX4_restore_X2_copyFrom : GoodIn wsX4_restore wsX2_copyFrom := goodIn_r _ [24, 25, 26, 27, 28, 29, 30, 31, 32, 33, 49, 50, 51, 52, 53] (by decide +kernel) (by decide +kernel)
set_option maxRecDepth 20000 in
theorem gX4_restore_X2_copyFrom : GoodIn wsX4_restore (wsV RX4 153 RX2 yX2_copyFrom wsX2_copyFrom) := goodIn_app (goodIn_of _ (by decide +kernel)) ggX4_restore_X2_copyFrom
set_option maxRecDepth 20000 in
theorem ggX4_restore_X2_marked : GoodIn wsX4_restore wsX2_marked := goodIn_r _ [38, 32, 49, 50, 51, 52, 53] (by decide +kernel) (by decide +kernel)
set_option maxRecDepth 20000 in
theorem gX4_restore_X2_marked : GoodIn wsX4_restore (wsV RX4 95 RX2 yX2_marked wsX2_marked) := goodIn_app (goodIn_of _ (by decide +kernel)) ggX4_restore_X2_marked
theorem dX4_restore_0 : decode cX4_restore 0 = .ok (.iload_n 1, 1) := by decide +kernel
theorem dX4_restore_1 : decode cX4_restore 1 = .ok (.invokestatic 174, 3) := by decide +kernel
theorem dX4_restore_4 : decode cX4_restore 4 = .ok (.ifCond .ne 6, 3) := by decide +kernel
theorem dX4_restore_7 : decode cX4_restore 7 = .ok (.bipush (-2), 2) := by decide +kernel
theorem dX4_restore_9 : decode cX4_restore 9 = .ok (.ireturn, 1) := by decide +kernel
theorem dX4_restore_10 : decode cX4_restore 10 = .ok (.aload_n 0, 1) := by decide +kernel
theorem dX4_restore_11 : decode cX4_restore 11 = .ok (.getfield 43, 3) := by decide +kernel
theorem dX4_restore_14 : decode cX4_restore 14 = .ok (.iload_n 1, 1) := by decide +kernel
theorem dX4_restore_15 : decode cX4_restore 15 = .ok (.aaload, 1) := by decide +kernel
theorem dX4_restore_16 : decode cX4_restore 16 = .ok (.astore_n 2, 1) := by decide +kernel
theorem dX4_restore_17 : decode cX4_restore 17 = .ok (.aload_n 2, 1) := by decide +kernel
theorem dX4_restore_18 : decode cX4_restore 18 = .ok (.ifnonnull 6, 3) := by decide +kernel
theorem dX4_restore_21 : decode cX4_restore 21 = .ok (.bipush (-5), 2) := by decide +kernel
theorem dX4_restore_23 : decode cX4_restore 23 = .ok (.ireturn, 1) := by decide +kernel
theorem dX4_restore_24 : decode cX4_restore 24 = .ok (.aload_n 0, 1) := by decide +kernel
theorem dX4_restore_25 : decode cX4_restore 25 = .ok (.getfield 39, 3) := by decide +kernel
theorem dX4_restore_28 : decode cX4_restore 28 = .ok (.aload_n 0, 1) := by decide +kernel
theorem dX4_restore_29 : decode cX4_restore 29 = .ok (.getfield 10, 3) := by decide +kernel
theorem dX4_restore_32 : decode cX4_restore 32 = .ok (.invokevirtual 51, 3) := by decide +kernel
theorem dX4_restore_35 : decode cX4_restore 35 = .ok (.aload_n 0, 1) := by decide +kernel
theorem dX4_restore_36 : decode cX4_restore 36 = .ok (.getfield 10, 3) := by decide +kernel
theorem dX4_restore_39 : decode cX4_restore 39 = .ok (.aload_n 2, 1) := by decide +kernel
theorem dX4_restore_40 : decode cX4_restore 40 = .ok (.invokevirtual 153, 3) := by decide +kernel
theorem dX4_restore_43 : decode cX4_restore 43 = .ok (.aload_n 0, 1) := by decide +kernel
theorem dX4_restore_44 : decode cX4_restore 44 = .ok (.getfield 10, 3) := by decide +kernel
theorem dX4_restore_47 : decode cX4_restore 47 = .ok (.invokevirtual 95, 3) := by decide +kernel
theorem dX4_restore_50 : decode cX4_restore 50 = .ok (.ireturn, 1) := by decide +kernel
theorem dX4_isPixel_0 : decode cX4_isPixel 0 = .ok (.iload_n 0, 1) := by decide +kernel
theorem dX4_isPixel_1 : decode cX4_isPixel 1 = .ok (.ifCond .lt 13, 3) := by decide +kernel
theorem dX4_isPixel_4 : decode cX4_isPixel 4 = .ok (.iload_n 0, 1) := by decide +kernel
theorem dX4_isPixel_5 : decode cX4_isPixel 5 = .ok (.bipush 48, 2) := by decide +kernel
theorem dX4_isPixel_7 : decode cX4_isPixel 7 = .ok (.if_icmp .ge 7, 3) := by decide +kernel
theorem dX4_isPixel_10 : decode cX4_isPixel 10 = .ok (.iconst 1, 1) := by decide +kernel
theorem dX4_isPixel_11 : decode cX4_isPixel 11 = .ok (.goto 4, 3) := by decide +kernel
theorem dX4_isPixel_14 : decode cX4_isPixel 14 = .ok (.iconst 0, 1) := by decide +kernel
theorem dX4_isPixel_15 : decode cX4_isPixel 15 = .ok (.ireturn, 1) := by decide +kernel
theorem dX4_isRow_0 : decode cX4_isRow 0 = .ok (.iload_n 0, 1) := by decide +kernel
theorem dX4_isRow_1 : decode cX4_isRow 1 = .ok (.ifCond .lt 13, 3) := by decide +kernel
theorem dX4_isRow_4 : decode cX4_isRow 4 = .ok (.iload_n 0, 1) := by decide +kernel
theorem dX4_isRow_5 : decode cX4_isRow 5 = .ok (.bipush 6, 2) := by decide +kernel
theorem dX4_isRow_7 : decode cX4_isRow 7 = .ok (.if_icmp .ge 7, 3) := by decide +kernel
theorem dX4_isRow_10 : decode cX4_isRow 10 = .ok (.iconst 1, 1) := by decide +kernel
theorem dX4_isRow_11 : decode cX4_isRow 11 = .ok (.goto 4, 3) := by decide +kernel
theorem dX4_isRow_14 : decode cX4_isRow 14 = .ok (.iconst 0, 1) := by decide +kernel
theorem dX4_isRow_15 : decode cX4_isRow 15 = .ok (.ireturn, 1) := by decide +kernel
theorem dX4_isColour_0 : decode cX4_isColour 0 = .ok (.iload_n 0, 1) := by decide +kernel
theorem dX4_isColour_1 : decode cX4_isColour 1 = .ok (.ifCond .lt 14, 3) := by decide +kernel
theorem dX4_isColour_4 : decode cX4_isColour 4 = .ok (.iload_n 0, 1) := by decide +kernel
theorem dX4_isColour_5 : decode cX4_isColour 5 = .ok (.sipush 4096, 3) := by decide +kernel
theorem dX4_isColour_8 : decode cX4_isColour 8 = .ok (.if_icmp .ge 7, 3) := by decide +kernel
theorem dX4_isColour_11 : decode cX4_isColour 11 = .ok (.iconst 1, 1) := by decide +kernel
theorem dX4_isColour_12 : decode cX4_isColour 12 = .ok (.goto 4, 3) := by decide +kernel
theorem dX4_isColour_15 : decode cX4_isColour 15 = .ok (.iconst 0, 1) := by decide +kernel
theorem dX4_isColour_16 : decode cX4_isColour 16 = .ok (.ireturn, 1) := by decide +kernel
theorem dX4_isSlot_0 : decode cX4_isSlot 0 = .ok (.iload_n 0, 1) := by decide +kernel
theorem dX4_isSlot_1 : decode cX4_isSlot 1 = .ok (.ifCond .lt 12, 3) := by decide +kernel
theorem dX4_isSlot_4 : decode cX4_isSlot 4 = .ok (.iload_n 0, 1) := by decide +kernel
theorem dX4_isSlot_5 : decode cX4_isSlot 5 = .ok (.iconst 2, 1) := by decide +kernel
theorem dX4_isSlot_6 : decode cX4_isSlot 6 = .ok (.if_icmp .ge 7, 3) := by decide +kernel
theorem dX4_isSlot_9 : decode cX4_isSlot 9 = .ok (.iconst 1, 1) := by decide +kernel
theorem dX4_isSlot_10 : decode cX4_isSlot 10 = .ok (.goto 4, 3) := by decide +kernel
theorem dX4_isSlot_13 : decode cX4_isSlot 13 = .ok (.iconst 0, 1) := by decide +kernel
theorem dX4_isSlot_14 : decode cX4_isSlot 14 = .ok (.ireturn, 1) := by decide +kernel
theorem dX4_isSetting_0 : decode cX4_isSetting 0 = .ok (.iload_n 0, 1) := by decide +kernel
theorem dX4_isSetting_1 : decode cX4_isSetting 1 = .ok (.ifCond .lt 13, 3) := by decide +kernel
theorem dX4_isSetting_4 : decode cX4_isSetting 4 = .ok (.iload_n 0, 1) := by decide +kernel
theorem dX4_isSetting_5 : decode cX4_isSetting 5 = .ok (.bipush 6, 2) := by decide +kernel
theorem dX4_isSetting_7 : decode cX4_isSetting 7 = .ok (.if_icmp .ge 7, 3) := by decide +kernel
theorem dX4_isSetting_10 : decode cX4_isSetting 10 = .ok (.iconst 1, 1) := by decide +kernel
theorem dX4_isSetting_11 : decode cX4_isSetting 11 = .ok (.goto 4, 3) := by decide +kernel
theorem dX4_isSetting_14 : decode cX4_isSetting 14 = .ok (.iconst 0, 1) := by decide +kernel
theorem dX4_isSetting_15 : decode cX4_isSetting 15 = .ok (.ireturn, 1) := by decide +kernel
set_option maxRecDepth 20000 in
theorem ggX4_errorOfSetting_X4_isSetting : GoodIn wsX4_errorOfSetting wsX4_isSetting := goodIn_r _ [7] (by decide +kernel) (by decide +kernel)
set_option maxRecDepth 20000 in
theorem gX4_errorOfSetting_X4_isSetting : GoodIn wsX4_errorOfSetting (va_wsS RX4 177 yX4_isSetting wsX4_isSetting) := goodIn_app (goodIn_of _ (by decide +kernel)) ggX4_errorOfSetting_X4_isSetting
theorem dX4_errorOfSetting_0 : decode cX4_errorOfSetting 0 = .ok (.iload_n 1, 1) := by decide +kernel
theorem dX4_errorOfSetting_1 : decode cX4_errorOfSetting 1 = .ok (.invokestatic 177, 3) := by decide +kernel
theorem dX4_errorOfSetting_4 : decode cX4_errorOfSetting 4 = .ok (.ifCond .eq 16, 3) := by decide +kernel
theorem dX4_errorOfSetting_7 : decode cX4_errorOfSetting 7 = .ok (.iload_n 2, 1) := by decide +kernel
theorem dX4_errorOfSetting_8 : decode cX4_errorOfSetting 8 = .ok (.ifCond .lt 12, 3) := by decide +kernel
theorem dX4_errorOfSetting_11 : decode cX4_errorOfSetting 11 = .ok (.iload_n 2, 1) := by decide +kernel
theorem dX4_errorOfSetting_12 : decode cX4_errorOfSetting 12 = .ok (.getstatic 180, 3) := by decide +kernel
theorem dX4_errorOfSetting_15 : decode cX4_errorOfSetting 15 = .ok (.iload_n 1, 1) := by decide +kernel
theorem dX4_errorOfSetting_16 : decode cX4_errorOfSetting 16 = .ok (.iaload, 1) := by decide +kernel
theorem dX4_errorOfSetting_17 : decode cX4_errorOfSetting 17 = .ok (.if_icmp .le 6, 3) := by decide +kernel
theorem dX4_errorOfSetting_20 : decode cX4_errorOfSetting 20 = .ok (.bipush (-2), 2) := by decide +kernel
theorem dX4_errorOfSetting_22 : decode cX4_errorOfSetting 22 = .ok (.ireturn, 1) := by decide +kernel
theorem dX4_errorOfSetting_23 : decode cX4_errorOfSetting 23 = .ok (.iload_n 1, 1) := by decide +kernel
theorem dX4_errorOfSetting_24 : decode cX4_errorOfSetting 24 = .ok (.ifCond .ne 7, 3) := by decide +kernel
theorem dX4_errorOfSetting_27 : decode cX4_errorOfSetting 27 = .ok (.iload_n 2, 1) := by decide +kernel
theorem dX4_errorOfSetting_28 : decode cX4_errorOfSetting 28 = .ok (.goto 12, 3) := by decide +kernel
theorem dX4_errorOfSetting_31 : decode cX4_errorOfSetting 31 = .ok (.aload_n 0, 1) := by decide +kernel
theorem dX4_errorOfSetting_32 : decode cX4_errorOfSetting 32 = .ok (.getfield 10, 3) := by decide +kernel
theorem dX4_errorOfSetting_35 : decode cX4_errorOfSetting 35 = .ok (.getfield 137, 3) := by decide +kernel
theorem dX4_errorOfSetting_38 : decode cX4_errorOfSetting 38 = .ok (.iconst 0, 1) := by decide +kernel
theorem dX4_errorOfSetting_39 : decode cX4_errorOfSetting 39 = .ok (.iaload, 1) := by decide +kernel
theorem dX4_errorOfSetting_40 : decode cX4_errorOfSetting 40 = .ok (.istore_n 3, 1) := by decide +kernel
theorem dX4_errorOfSetting_41 : decode cX4_errorOfSetting 41 = .ok (.iload_n 1, 1) := by decide +kernel
theorem dX4_errorOfSetting_42 : decode cX4_errorOfSetting 42 = .ok (.iconst 1, 1) := by decide +kernel
theorem dX4_errorOfSetting_43 : decode cX4_errorOfSetting 43 = .ok (.if_icmp .ne 7, 3) := by decide +kernel
theorem dX4_errorOfSetting_46 : decode cX4_errorOfSetting 46 = .ok (.iload_n 2, 1) := by decide +kernel
theorem dX4_errorOfSetting_47 : decode cX4_errorOfSetting 47 = .ok (.goto 12, 3) := by decide +kernel
theorem dX4_errorOfSetting_50 : decode cX4_errorOfSetting 50 = .ok (.aload_n 0, 1) := by decide +kernel
theorem dX4_errorOfSetting_51 : decode cX4_errorOfSetting 51 = .ok (.getfield 10, 3) := by decide +kernel
theorem dX4_errorOfSetting_54 : decode cX4_errorOfSetting 54 = .ok (.getfield 137, 3) := by decide +kernel
theorem dX4_errorOfSetting_57 : decode cX4_errorOfSetting 57 = .ok (.iconst 1, 1) := by decide +kernel
theorem dX4_errorOfSetting_58 : decode cX4_errorOfSetting 58 = .ok (.iaload, 1) := by decide +kernel
theorem dX4_errorOfSetting_59 : decode cX4_errorOfSetting 59 = .ok (.istore 4, 2) := by decide +kernel
theorem dX4_errorOfSetting_61 : decode cX4_errorOfSetting 61 = .ok (.iload_n 3, 1) := by decide +kernel
theorem dX4_errorOfSetting_62 : decode cX4_errorOfSetting 62 = .ok (.iload 4, 2) := by decide +kernel
theorem dX4_errorOfSetting_64 : decode cX4_errorOfSetting 64 = .ok (.if_icmp .ge 7, 3) := by decide +kernel
theorem dX4_errorOfSetting_67 : decode cX4_errorOfSetting 67 = .ok (.iconst 0, 1) := by decide +kernel
theorem dX4_errorOfSetting_68 : decode cX4_errorOfSetting 68 = .ok (.goto 5, 3) := by decide +kernel
theorem dX4_errorOfSetting_71 : decode cX4_errorOfSetting 71 = .ok (.bipush (-5), 2) := by decide +kernel
theorem dX4_errorOfSetting_73 : decode cX4_errorOfSetting 73 = .ok (.ireturn, 1) := by decide +kernel
theorem dX4_charactersIn_0 : decode cX4_charactersIn 0 = .ok (.lload_n 0, 1) := by decide +kernel
theorem dX4_charactersIn_1 : decode cX4_charactersIn 1 = .ok (.lstore_n 2, 1) := by decide +kernel
theorem dX4_charactersIn_2 : decode cX4_charactersIn 2 = .ok (.iconst 0, 1) := by decide +kernel
theorem dX4_charactersIn_3 : decode cX4_charactersIn 3 = .ok (.istore 4, 2) := by decide +kernel
theorem dX4_charactersIn_5 : decode cX4_charactersIn 5 = .ok (.iconst 0, 1) := by decide +kernel
theorem dX4_charactersIn_6 : decode cX4_charactersIn 6 = .ok (.istore 5, 2) := by decide +kernel
theorem dX4_charactersIn_8 : decode cX4_charactersIn 8 = .ok (.iload 5, 2) := by decide +kernel
theorem dX4_charactersIn_10 : decode cX4_charactersIn 10 = .ok (.bipush 8, 2) := by decide +kernel
theorem dX4_charactersIn_12 : decode cX4_charactersIn 12 = .ok (.if_icmp .ge 47, 3) := by decide +kernel
theorem dX4_charactersIn_15 : decode cX4_charactersIn 15 = .ok (.lload_n 2, 1) := by decide +kernel
theorem dX4_charactersIn_16 : decode cX4_charactersIn 16 = .ok (.lconst 0, 1) := by decide +kernel
theorem dX4_charactersIn_17 : decode cX4_charactersIn 17 = .ok (.lcmp, 1) := by decide +kernel
theorem dX4_charactersIn_18 : decode cX4_charactersIn 18 = .ok (.ifCond .eq 41, 3) := by decide +kernel
theorem dX4_charactersIn_21 : decode cX4_charactersIn 21 = .ok (.lload_n 2, 1) := by decide +kernel
theorem dX4_charactersIn_22 : decode cX4_charactersIn 22 = .ok (.ldc2_w 183, 3) := by decide +kernel
theorem dX4_charactersIn_25 : decode cX4_charactersIn 25 = .ok (.land, 1) := by decide +kernel
theorem dX4_charactersIn_26 : decode cX4_charactersIn 26 = .ok (.l2i, 1) := by decide +kernel
theorem dX4_charactersIn_27 : decode cX4_charactersIn 27 = .ok (.istore 6, 2) := by decide +kernel
theorem dX4_charactersIn_29 : decode cX4_charactersIn 29 = .ok (.iload 6, 2) := by decide +kernel
theorem dX4_charactersIn_31 : decode cX4_charactersIn 31 = .ok (.bipush 33, 2) := by decide +kernel
theorem dX4_charactersIn_33 : decode cX4_charactersIn 33 = .ok (.if_icmp .lt 10, 3) := by decide +kernel
theorem dX4_charactersIn_36 : decode cX4_charactersIn 36 = .ok (.iload 6, 2) := by decide +kernel
theorem dX4_charactersIn_38 : decode cX4_charactersIn 38 = .ok (.bipush 126, 2) := by decide +kernel
theorem dX4_charactersIn_40 : decode cX4_charactersIn 40 = .ok (.if_icmp .le 5, 3) := by decide +kernel
theorem dX4_charactersIn_43 : decode cX4_charactersIn 43 = .ok (.iconst 0, 1) := by decide +kernel
theorem dX4_charactersIn_44 : decode cX4_charactersIn 44 = .ok (.ireturn, 1) := by decide +kernel
theorem dX4_charactersIn_45 : decode cX4_charactersIn 45 = .ok (.iinc 4 1, 3) := by decide +kernel
theorem dX4_charactersIn_48 : decode cX4_charactersIn 48 = .ok (.lload_n 2, 1) := by decide +kernel
theorem dX4_charactersIn_49 : decode cX4_charactersIn 49 = .ok (.bipush 8, 2) := by decide +kernel
theorem dX4_charactersIn_51 : decode cX4_charactersIn 51 = .ok (.lushr, 1) := by decide +kernel
theorem dX4_charactersIn_52 : decode cX4_charactersIn 52 = .ok (.lstore_n 2, 1) := by decide +kernel
theorem dX4_charactersIn_53 : decode cX4_charactersIn 53 = .ok (.iinc 5 1, 3) := by decide +kernel
theorem dX4_charactersIn_56 : decode cX4_charactersIn 56 = .ok (.goto (-48), 3) := by decide +kernel
theorem dX4_charactersIn_59 : decode cX4_charactersIn 59 = .ok (.iload 4, 2) := by decide +kernel
theorem dX4_charactersIn_61 : decode cX4_charactersIn 61 = .ok (.ireturn, 1) := by decide +kernel
theorem dX4_beside_0 : decode cX4_beside 0 = .ok (.iload_n 0, 1) := by decide +kernel
theorem dX4_beside_1 : decode cX4_beside 1 = .ok (.bipush 8, 2) := by decide +kernel
theorem dX4_beside_3 : decode cX4_beside 3 = .ok (.irem, 1) := by decide +kernel
theorem dX4_beside_4 : decode cX4_beside 4 = .ok (.istore_n 2, 1) := by decide +kernel
theorem dX4_beside_5 : decode cX4_beside 5 = .ok (.iload_n 1, 1) := by decide +kernel
theorem dX4_beside_6 : decode cX4_beside 6 = .ok (.tableswitch 68 0 2 #[26, 41, 56], 26) := by decide +kernel
theorem dX4_beside_32 : decode cX4_beside 32 = .ok (.iload_n 0, 1) := by decide +kernel
theorem dX4_beside_33 : decode cX4_beside 33 = .ok (.bipush 8, 2) := by decide +kernel
theorem dX4_beside_35 : decode cX4_beside 35 = .ok (.if_icmp .lt 10, 3) := by decide +kernel
theorem dX4_beside_38 : decode cX4_beside 38 = .ok (.iload_n 0, 1) := by decide +kernel
theorem dX4_beside_39 : decode cX4_beside 39 = .ok (.bipush 8, 2) := by decide +kernel
theorem dX4_beside_41 : decode cX4_beside 41 = .ok (.isub, 1) := by decide +kernel
theorem dX4_beside_42 : decode cX4_beside 42 = .ok (.goto 4, 3) := by decide +kernel
theorem dX4_beside_45 : decode cX4_beside 45 = .ok (.iconst (-1), 1) := by decide +kernel
theorem dX4_beside_46 : decode cX4_beside 46 = .ok (.ireturn, 1) := by decide +kernel
theorem dX4_beside_47 : decode cX4_beside 47 = .ok (.iload_n 0, 1) := by decide +kernel
theorem dX4_beside_48 : decode cX4_beside 48 = .ok (.bipush 40, 2) := by decide +kernel
theorem dX4_beside_50 : decode cX4_beside 50 = .ok (.if_icmp .ge 10, 3) := by decide +kernel
theorem dX4_beside_53 : decode cX4_beside 53 = .ok (.iload_n 0, 1) := by decide +kernel
theorem dX4_beside_54 : decode cX4_beside 54 = .ok (.bipush 8, 2) := by decide +kernel
theorem dX4_beside_56 : decode cX4_beside 56 = .ok (.iadd, 1) := by decide +kernel
theorem dX4_beside_57 : decode cX4_beside 57 = .ok (.goto 4, 3) := by decide +kernel
theorem dX4_beside_60 : decode cX4_beside 60 = .ok (.iconst (-1), 1) := by decide +kernel
theorem dX4_beside_61 : decode cX4_beside 61 = .ok (.ireturn, 1) := by decide +kernel
theorem dX4_beside_62 : decode cX4_beside 62 = .ok (.iload_n 2, 1) := by decide +kernel
theorem dX4_beside_63 : decode cX4_beside 63 = .ok (.ifCond .le 9, 3) := by decide +kernel
theorem dX4_beside_66 : decode cX4_beside 66 = .ok (.iload_n 0, 1) := by decide +kernel
theorem dX4_beside_67 : decode cX4_beside 67 = .ok (.iconst 1, 1) := by decide +kernel
theorem dX4_beside_68 : decode cX4_beside 68 = .ok (.isub, 1) := by decide +kernel
theorem dX4_beside_69 : decode cX4_beside 69 = .ok (.goto 4, 3) := by decide +kernel
theorem dX4_beside_72 : decode cX4_beside 72 = .ok (.iconst (-1), 1) := by decide +kernel
theorem dX4_beside_73 : decode cX4_beside 73 = .ok (.ireturn, 1) := by decide +kernel
theorem dX4_beside_74 : decode cX4_beside 74 = .ok (.iload_n 2, 1) := by decide +kernel
theorem dX4_beside_75 : decode cX4_beside 75 = .ok (.bipush 7, 2) := by decide +kernel
theorem dX4_beside_77 : decode cX4_beside 77 = .ok (.if_icmp .ge 9, 3) := by decide +kernel
theorem dX4_beside_80 : decode cX4_beside 80 = .ok (.iload_n 0, 1) := by decide +kernel
theorem dX4_beside_81 : decode cX4_beside 81 = .ok (.iconst 1, 1) := by decide +kernel
theorem dX4_beside_82 : decode cX4_beside 82 = .ok (.iadd, 1) := by decide +kernel
theorem dX4_beside_83 : decode cX4_beside 83 = .ok (.goto 4, 3) := by decide +kernel
theorem dX4_beside_86 : decode cX4_beside 86 = .ok (.iconst (-1), 1) := by decide +kernel
theorem dX4_beside_87 : decode cX4_beside 87 = .ok (.ireturn, 1) := by decide +kernel
theorem dX4_isAtEdge_0 : decode cX4_isAtEdge 0 = .ok (.iload_n 0, 1) := by decide +kernel
theorem dX4_isAtEdge_1 : decode cX4_isAtEdge 1 = .ok (.bipush 8, 2) := by decide +kernel
theorem dX4_isAtEdge_3 : decode cX4_isAtEdge 3 = .ok (.irem, 1) := by decide +kernel
theorem dX4_isAtEdge_4 : decode cX4_isAtEdge 4 = .ok (.istore_n 1, 1) := by decide +kernel
theorem dX4_isAtEdge_5 : decode cX4_isAtEdge 5 = .ok (.iload_n 0, 1) := by decide +kernel
theorem dX4_isAtEdge_6 : decode cX4_isAtEdge 6 = .ok (.bipush 8, 2) := by decide +kernel
theorem dX4_isAtEdge_8 : decode cX4_isAtEdge 8 = .ok (.idiv, 1) := by decide +kernel
theorem dX4_isAtEdge_9 : decode cX4_isAtEdge 9 = .ok (.istore_n 2, 1) := by decide +kernel
theorem dX4_isAtEdge_10 : decode cX4_isAtEdge 10 = .ok (.iload_n 1, 1) := by decide +kernel
theorem dX4_isAtEdge_11 : decode cX4_isAtEdge 11 = .ok (.ifCond .eq 18, 3) := by decide +kernel
theorem dX4_isAtEdge_14 : decode cX4_isAtEdge 14 = .ok (.iload_n 1, 1) := by decide +kernel
theorem dX4_isAtEdge_15 : decode cX4_isAtEdge 15 = .ok (.bipush 7, 2) := by decide +kernel
theorem dX4_isAtEdge_17 : decode cX4_isAtEdge 17 = .ok (.if_icmp .eq 12, 3) := by decide +kernel
theorem dX4_isAtEdge_20 : decode cX4_isAtEdge 20 = .ok (.iload_n 2, 1) := by decide +kernel
theorem dX4_isAtEdge_21 : decode cX4_isAtEdge 21 = .ok (.ifCond .eq 8, 3) := by decide +kernel
theorem dX4_isAtEdge_24 : decode cX4_isAtEdge 24 = .ok (.iload_n 2, 1) := by decide +kernel
theorem dX4_isAtEdge_25 : decode cX4_isAtEdge 25 = .ok (.iconst 5, 1) := by decide +kernel
theorem dX4_isAtEdge_26 : decode cX4_isAtEdge 26 = .ok (.if_icmp .ne 7, 3) := by decide +kernel
theorem dX4_isAtEdge_29 : decode cX4_isAtEdge 29 = .ok (.iconst 1, 1) := by decide +kernel
theorem dX4_isAtEdge_30 : decode cX4_isAtEdge 30 = .ok (.goto 4, 3) := by decide +kernel
theorem dX4_isAtEdge_33 : decode cX4_isAtEdge 33 = .ok (.iconst 0, 1) := by decide +kernel
theorem dX4_isAtEdge_34 : decode cX4_isAtEdge 34 = .ok (.ireturn, 1) := by decide +kernel
theorem dX4_fillBetween_0 : decode cX4_fillBetween 0 = .ok (.iload_n 1, 1) := by decide +kernel
theorem dX4_fillBetween_1 : decode cX4_fillBetween 1 = .ok (.bipush 8, 2) := by decide +kernel
theorem dX4_fillBetween_3 : decode cX4_fillBetween 3 = .ok (.irem, 1) := by decide +kernel
theorem dX4_fillBetween_4 : decode cX4_fillBetween 4 = .ok (.iload_n 2, 1) := by decide +kernel
theorem dX4_fillBetween_5 : decode cX4_fillBetween 5 = .ok (.bipush 8, 2) := by decide +kernel
theorem dX4_fillBetween_7 : decode cX4_fillBetween 7 = .ok (.irem, 1) := by decide +kernel
theorem dX4_fillBetween_8 : decode cX4_fillBetween 8 = .ok (.invokestatic 185, 3) := by decide +kernel
theorem dX4_fillBetween_11 : decode cX4_fillBetween 11 = .ok (.istore 4, 2) := by decide +kernel
theorem dX4_fillBetween_13 : decode cX4_fillBetween 13 = .ok (.iload_n 1, 1) := by decide +kernel
theorem dX4_fillBetween_14 : decode cX4_fillBetween 14 = .ok (.bipush 8, 2) := by decide +kernel
theorem dX4_fillBetween_16 : decode cX4_fillBetween 16 = .ok (.irem, 1) := by decide +kernel
theorem dX4_fillBetween_17 : decode cX4_fillBetween 17 = .ok (.iload_n 2, 1) := by decide +kernel
theorem dX4_fillBetween_18 : decode cX4_fillBetween 18 = .ok (.bipush 8, 2) := by decide +kernel
theorem dX4_fillBetween_20 : decode cX4_fillBetween 20 = .ok (.irem, 1) := by decide +kernel
theorem dX4_fillBetween_21 : decode cX4_fillBetween 21 = .ok (.invokestatic 190, 3) := by decide +kernel
theorem dX4_fillBetween_24 : decode cX4_fillBetween 24 = .ok (.istore 5, 2) := by decide +kernel
theorem dX4_fillBetween_26 : decode cX4_fillBetween 26 = .ok (.iload_n 1, 1) := by decide +kernel
theorem dX4_fillBetween_27 : decode cX4_fillBetween 27 = .ok (.bipush 8, 2) := by decide +kernel
theorem dX4_fillBetween_29 : decode cX4_fillBetween 29 = .ok (.idiv, 1) := by decide +kernel
theorem dX4_fillBetween_30 : decode cX4_fillBetween 30 = .ok (.iload_n 2, 1) := by decide +kernel
theorem dX4_fillBetween_31 : decode cX4_fillBetween 31 = .ok (.bipush 8, 2) := by decide +kernel
theorem dX4_fillBetween_33 : decode cX4_fillBetween 33 = .ok (.idiv, 1) := by decide +kernel
theorem dX4_fillBetween_34 : decode cX4_fillBetween 34 = .ok (.invokestatic 185, 3) := by decide +kernel
theorem dX4_fillBetween_37 : decode cX4_fillBetween 37 = .ok (.istore 6, 2) := by decide +kernel
theorem dX4_fillBetween_39 : decode cX4_fillBetween 39 = .ok (.iload_n 1, 1) := by decide +kernel
theorem dX4_fillBetween_40 : decode cX4_fillBetween 40 = .ok (.bipush 8, 2) := by decide +kernel
theorem dX4_fillBetween_42 : decode cX4_fillBetween 42 = .ok (.idiv, 1) := by decide +kernel
theorem dX4_fillBetween_43 : decode cX4_fillBetween 43 = .ok (.iload_n 2, 1) := by decide +kernel
theorem dX4_fillBetween_44 : decode cX4_fillBetween 44 = .ok (.bipush 8, 2) := by decide +kernel
theorem dX4_fillBetween_46 : decode cX4_fillBetween 46 = .ok (.idiv, 1) := by decide +kernel
theorem dX4_fillBetween_47 : decode cX4_fillBetween 47 = .ok (.invokestatic 190, 3) := by decide +kernel
theorem dX4_fillBetween_50 : decode cX4_fillBetween 50 = .ok (.istore 7, 2) := by decide +kernel
theorem dX4_fillBetween_52 : decode cX4_fillBetween 52 = .ok (.iload 6, 2) := by decide +kernel
theorem dX4_fillBetween_54 : decode cX4_fillBetween 54 = .ok (.istore 8, 2) := by decide +kernel
theorem dX4_fillBetween_56 : decode cX4_fillBetween 56 = .ok (.iload 8, 2) := by decide +kernel
theorem dX4_fillBetween_58 : decode cX4_fillBetween 58 = .ok (.iload 7, 2) := by decide +kernel
theorem dX4_fillBetween_60 : decode cX4_fillBetween 60 = .ok (.if_icmp .gt 37, 3) := by decide +kernel
theorem dX4_fillBetween_63 : decode cX4_fillBetween 63 = .ok (.iload 4, 2) := by decide +kernel
theorem dX4_fillBetween_65 : decode cX4_fillBetween 65 = .ok (.istore 9, 2) := by decide +kernel
theorem dX4_fillBetween_67 : decode cX4_fillBetween 67 = .ok (.iload 9, 2) := by decide +kernel
theorem dX4_fillBetween_69 : decode cX4_fillBetween 69 = .ok (.iload 5, 2) := by decide +kernel
theorem dX4_fillBetween_71 : decode cX4_fillBetween 71 = .ok (.if_icmp .gt 20, 3) := by decide +kernel
theorem dX4_fillBetween_74 : decode cX4_fillBetween 74 = .ok (.aload_n 0, 1) := by decide +kernel
theorem dX4_fillBetween_75 : decode cX4_fillBetween 75 = .ok (.bipush 8, 2) := by decide +kernel
theorem dX4_fillBetween_77 : decode cX4_fillBetween 77 = .ok (.iload 8, 2) := by decide +kernel
theorem dX4_fillBetween_79 : decode cX4_fillBetween 79 = .ok (.imul, 1) := by decide +kernel
theorem dX4_fillBetween_80 : decode cX4_fillBetween 80 = .ok (.iload 9, 2) := by decide +kernel
theorem dX4_fillBetween_82 : decode cX4_fillBetween 82 = .ok (.iadd, 1) := by decide +kernel
theorem dX4_fillBetween_83 : decode cX4_fillBetween 83 = .ok (.iload_n 3, 1) := by decide +kernel
theorem dX4_fillBetween_84 : decode cX4_fillBetween 84 = .ok (.iastore, 1) := by decide +kernel
theorem dX4_fillBetween_85 : decode cX4_fillBetween 85 = .ok (.iinc 9 1, 3) := by decide +kernel
theorem dX4_fillBetween_88 : decode cX4_fillBetween 88 = .ok (.goto (-21), 3) := by decide +kernel
theorem dX4_fillBetween_91 : decode cX4_fillBetween 91 = .ok (.iinc 8 1, 3) := by decide +kernel
theorem dX4_fillBetween_94 : decode cX4_fillBetween 94 = .ok (.goto (-38), 3) := by decide +kernel
theorem dX4_fillBetween_97 : decode cX4_fillBetween 97 = .ok (.iload 5, 2) := by decide +kernel
theorem dX4_fillBetween_99 : decode cX4_fillBetween 99 = .ok (.iload 4, 2) := by decide +kernel
theorem dX4_fillBetween_101 : decode cX4_fillBetween 101 = .ok (.isub, 1) := by decide +kernel
theorem dX4_fillBetween_102 : decode cX4_fillBetween 102 = .ok (.iconst 1, 1) := by decide +kernel
theorem dX4_fillBetween_103 : decode cX4_fillBetween 103 = .ok (.iadd, 1) := by decide +kernel
theorem dX4_fillBetween_104 : decode cX4_fillBetween 104 = .ok (.iload 7, 2) := by decide +kernel
theorem dX4_fillBetween_106 : decode cX4_fillBetween 106 = .ok (.iload 6, 2) := by decide +kernel
theorem dX4_fillBetween_108 : decode cX4_fillBetween 108 = .ok (.isub, 1) := by decide +kernel
theorem dX4_fillBetween_109 : decode cX4_fillBetween 109 = .ok (.iconst 1, 1) := by decide +kernel
theorem dX4_fillBetween_110 : decode cX4_fillBetween 110 = .ok (.iadd, 1) := by decide +kernel
theorem dX4_fillBetween_111 : decode cX4_fillBetween 111 = .ok (.imul, 1) := by decide +kernel
theorem dX4_fillBetween_112 : decode cX4_fillBetween 112 = .ok (.ireturn, 1) := by decide +kernel
set_option maxRecDepth 20000 in
theorem ggX4_part_X4_partShift : GoodIn wsX4_part wsX4_partShift := goodIn_r _ [4] (by decide +kernel) (by decide +kernel)
set_option maxRecDepth 20000 in
theorem gX4_part_X4_partShift : GoodIn wsX4_part (va_wsS RX4 193 yX4_partShift wsX4_partShift) := goodIn_app (goodIn_of _ (by decide +kernel)) ggX4_part_X4_partShift
theorem dX4_part_0 : decode cX4_part 0 = .ok (.iload_n 0, 1) := by decide +kernel
theorem dX4_part_1 : decode cX4_part 1 = .ok (.iload_n 1, 1) := by decide +kernel
theorem dX4_part_2 : decode cX4_part 2 = .ok (.invokestatic 193, 3) := by decide +kernel
theorem dX4_part_5 : decode cX4_part 5 = .ok (.ishr, 1) := by decide +kernel
theorem dX4_part_6 : decode cX4_part 6 = .ok (.bipush 15, 2) := by decide +kernel
theorem dX4_part_8 : decode cX4_part 8 = .ok (.iand, 1) := by decide +kernel
theorem dX4_part_9 : decode cX4_part 9 = .ok (.ireturn, 1) := by decide +kernel
theorem dX4_partShift_0 : decode cX4_partShift 0 = .ok (.iconst 4, 1) := by decide +kernel
theorem dX4_partShift_1 : decode cX4_partShift 1 = .ok (.iconst 2, 1) := by decide +kernel
theorem dX4_partShift_2 : decode cX4_partShift 2 = .ok (.iload_n 0, 1) := by decide +kernel
theorem dX4_partShift_3 : decode cX4_partShift 3 = .ok (.isub, 1) := by decide +kernel
theorem dX4_partShift_4 : decode cX4_partShift 4 = .ok (.imul, 1) := by decide +kernel
theorem dX4_partShift_5 : decode cX4_partShift 5 = .ok (.ireturn, 1) := by decide +kernel
set_option maxRecDepth 20000 in
theorem ggX4_mainPart_X4_part : GoodIn wsX4_mainPart wsX4_part := goodIn_r _ [4, 5, 6, 3, 7] (by decide +kernel) (by decide +kernel)
set_option maxRecDepth 20000 in
theorem gX4_mainPart_X4_part : GoodIn wsX4_mainPart (va_wsS RX4 196 yX4_part wsX4_part) := goodIn_app (goodIn_of _ (by decide +kernel)) ggX4_mainPart_X4_part
theorem dX4_mainPart_0 : decode cX4_mainPart 0 = .ok (.iconst 0, 1) := by decide +kernel
theorem dX4_mainPart_1 : decode cX4_mainPart 1 = .ok (.istore_n 1, 1) := by decide +kernel
theorem dX4_mainPart_2 : decode cX4_mainPart 2 = .ok (.iconst 1, 1) := by decide +kernel
theorem dX4_mainPart_3 : decode cX4_mainPart 3 = .ok (.istore_n 2, 1) := by decide +kernel
theorem dX4_mainPart_4 : decode cX4_mainPart 4 = .ok (.iload_n 2, 1) := by decide +kernel
theorem dX4_mainPart_5 : decode cX4_mainPart 5 = .ok (.iconst 3, 1) := by decide +kernel
theorem dX4_mainPart_6 : decode cX4_mainPart 6 = .ok (.if_icmp .ge 24, 3) := by decide +kernel
theorem dX4_mainPart_9 : decode cX4_mainPart 9 = .ok (.iload_n 0, 1) := by decide +kernel
theorem dX4_mainPart_10 : decode cX4_mainPart 10 = .ok (.iload_n 2, 1) := by decide +kernel
theorem dX4_mainPart_11 : decode cX4_mainPart 11 = .ok (.invokestatic 196, 3) := by decide +kernel
theorem dX4_mainPart_14 : decode cX4_mainPart 14 = .ok (.iload_n 0, 1) := by decide +kernel
theorem dX4_mainPart_15 : decode cX4_mainPart 15 = .ok (.iload_n 1, 1) := by decide +kernel
theorem dX4_mainPart_16 : decode cX4_mainPart 16 = .ok (.invokestatic 196, 3) := by decide +kernel
theorem dX4_mainPart_19 : decode cX4_mainPart 19 = .ok (.if_icmp .le 5, 3) := by decide +kernel
theorem dX4_mainPart_22 : decode cX4_mainPart 22 = .ok (.iload_n 2, 1) := by decide +kernel
theorem dX4_mainPart_23 : decode cX4_mainPart 23 = .ok (.istore_n 1, 1) := by decide +kernel
theorem dX4_mainPart_24 : decode cX4_mainPart 24 = .ok (.iinc 2 1, 3) := by decide +kernel
theorem dX4_mainPart_27 : decode cX4_mainPart 27 = .ok (.goto (-23), 3) := by decide +kernel
theorem dX4_mainPart_30 : decode cX4_mainPart 30 = .ok (.iload_n 1, 1) := by decide +kernel
theorem dX4_mainPart_31 : decode cX4_mainPart 31 = .ok (.ireturn, 1) := by decide +kernel
set_option maxRecDepth 20000 in
theorem ggX4_spillIn_X4_part : GoodIn wsX4_spillIn wsX4_part := goodIn_r _ [8, 9, 10, 7, 11] (by decide +kernel) (by decide +kernel)
set_option maxRecDepth 20000 in
theorem gX4_spillIn_X4_part : GoodIn wsX4_spillIn (va_wsS RX4 196 yX4_part wsX4_part) := goodIn_app (goodIn_of _ (by decide +kernel)) ggX4_spillIn_X4_part
theorem dX4_spillIn_0 : decode cX4_spillIn 0 = .ok (.iload_n 0, 1) := by decide +kernel
theorem dX4_spillIn_1 : decode cX4_spillIn 1 = .ok (.iload_n 1, 1) := by decide +kernel
theorem dX4_spillIn_2 : decode cX4_spillIn 2 = .ok (.iconst 1, 1) := by decide +kernel
theorem dX4_spillIn_3 : decode cX4_spillIn 3 = .ok (.iadd, 1) := by decide +kernel
theorem dX4_spillIn_4 : decode cX4_spillIn 4 = .ok (.iconst 3, 1) := by decide +kernel
theorem dX4_spillIn_5 : decode cX4_spillIn 5 = .ok (.irem, 1) := by decide +kernel
theorem dX4_spillIn_6 : decode cX4_spillIn 6 = .ok (.invokestatic 196, 3) := by decide +kernel
theorem dX4_spillIn_9 : decode cX4_spillIn 9 = .ok (.istore_n 2, 1) := by decide +kernel
theorem dX4_spillIn_10 : decode cX4_spillIn 10 = .ok (.iload_n 0, 1) := by decide +kernel
theorem dX4_spillIn_11 : decode cX4_spillIn 11 = .ok (.iload_n 1, 1) := by decide +kernel
theorem dX4_spillIn_12 : decode cX4_spillIn 12 = .ok (.iconst 2, 1) := by decide +kernel
theorem dX4_spillIn_13 : decode cX4_spillIn 13 = .ok (.iadd, 1) := by decide +kernel
theorem dX4_spillIn_14 : decode cX4_spillIn 14 = .ok (.iconst 3, 1) := by decide +kernel
theorem dX4_spillIn_15 : decode cX4_spillIn 15 = .ok (.irem, 1) := by decide +kernel
theorem dX4_spillIn_16 : decode cX4_spillIn 16 = .ok (.invokestatic 196, 3) := by decide +kernel
theorem dX4_spillIn_19 : decode cX4_spillIn 19 = .ok (.istore_n 3, 1) := by decide +kernel
theorem dX4_spillIn_20 : decode cX4_spillIn 20 = .ok (.iconst 0, 1) := by decide +kernel
theorem dX4_spillIn_21 : decode cX4_spillIn 21 = .ok (.iload_n 0, 1) := by decide +kernel
theorem dX4_spillIn_22 : decode cX4_spillIn 22 = .ok (.iload_n 1, 1) := by decide +kernel
theorem dX4_spillIn_23 : decode cX4_spillIn 23 = .ok (.invokestatic 196, 3) := by decide +kernel
theorem dX4_spillIn_26 : decode cX4_spillIn 26 = .ok (.iload_n 2, 1) := by decide +kernel
theorem dX4_spillIn_27 : decode cX4_spillIn 27 = .ok (.iload_n 3, 1) := by decide +kernel
theorem dX4_spillIn_28 : decode cX4_spillIn 28 = .ok (.invokestatic 190, 3) := by decide +kernel
theorem dX4_spillIn_31 : decode cX4_spillIn 31 = .ok (.isub, 1) := by decide +kernel
theorem dX4_spillIn_32 : decode cX4_spillIn 32 = .ok (.invokestatic 190, 3) := by decide +kernel
theorem dX4_spillIn_35 : decode cX4_spillIn 35 = .ok (.ireturn, 1) := by decide +kernel
set_option maxRecDepth 20000 in
theorem ggX4_distance_X4_part : GoodIn wsX4_distance wsX4_part := goodIn_r _ [8, 9, 10, 7, 11] (by decide +kernel) (by decide +kernel)
set_option maxRecDepth 20000 in
theorem gX4_distance_X4_part : GoodIn wsX4_distance (va_wsS RX4 196 yX4_part wsX4_part) := goodIn_app (goodIn_of _ (by decide +kernel)) ggX4_distance_X4_part
theorem dX4_distance_0 : decode cX4_distance 0 = .ok (.iconst 0, 1) := by decide +kernel
theorem dX4_distance_1 : decode cX4_distance 1 = .ok (.istore_n 2, 1) := by decide +kernel
theorem dX4_distance_2 : decode cX4_distance 2 = .ok (.iconst 0, 1) := by decide +kernel
theorem dX4_distance_3 : decode cX4_distance 3 = .ok (.istore_n 3, 1) := by decide +kernel
theorem dX4_distance_4 : decode cX4_distance 4 = .ok (.iload_n 3, 1) := by decide +kernel
theorem dX4_distance_5 : decode cX4_distance 5 = .ok (.iconst 3, 1) := by decide +kernel
theorem dX4_distance_6 : decode cX4_distance 6 = .ok (.if_icmp .ge 26, 3) := by decide +kernel
theorem dX4_distance_9 : decode cX4_distance 9 = .ok (.iload_n 2, 1) := by decide +kernel
theorem dX4_distance_10 : decode cX4_distance 10 = .ok (.iload_n 0, 1) := by decide +kernel
theorem dX4_distance_11 : decode cX4_distance 11 = .ok (.iload_n 3, 1) := by decide +kernel
theorem dX4_distance_12 : decode cX4_distance 12 = .ok (.invokestatic 196, 3) := by decide +kernel
theorem dX4_distance_15 : decode cX4_distance 15 = .ok (.iload_n 1, 1) := by decide +kernel
theorem dX4_distance_16 : decode cX4_distance 16 = .ok (.iload_n 3, 1) := by decide +kernel
theorem dX4_distance_17 : decode cX4_distance 17 = .ok (.invokestatic 196, 3) := by decide +kernel
theorem dX4_distance_20 : decode cX4_distance 20 = .ok (.isub, 1) := by decide +kernel
theorem dX4_distance_21 : decode cX4_distance 21 = .ok (.invokestatic 199, 3) := by decide +kernel
theorem dX4_distance_24 : decode cX4_distance 24 = .ok (.iadd, 1) := by decide +kernel
theorem dX4_distance_25 : decode cX4_distance 25 = .ok (.istore_n 2, 1) := by decide +kernel
theorem dX4_distance_26 : decode cX4_distance 26 = .ok (.iinc 3 1, 3) := by decide +kernel
theorem dX4_distance_29 : decode cX4_distance 29 = .ok (.goto (-25), 3) := by decide +kernel
theorem dX4_distance_32 : decode cX4_distance 32 = .ok (.iload_n 2, 1) := by decide +kernel
theorem dX4_distance_33 : decode cX4_distance 33 = .ok (.ireturn, 1) := by decide +kernel
set_option maxRecDepth 20000 in
theorem ggX4_composedColour_X4_part : GoodIn wsX4_composedColour wsX4_part := goodIn_r _ [4, 5, 6, 3, 7] (by decide +kernel) (by decide +kernel)
set_option maxRecDepth 20000 in
theorem gX4_composedColour_X4_part : GoodIn wsX4_composedColour (va_wsS RX4 196 yX4_part wsX4_part) := goodIn_app (goodIn_of _ (by decide +kernel)) ggX4_composedColour_X4_part
set_option maxRecDepth 20000 in
theorem ggX4_composedColour_X4_partShift : GoodIn wsX4_composedColour wsX4_partShift := goodIn_r _ [7] (by decide +kernel) (by decide +kernel)
set_option maxRecDepth 20000 in
theorem gX4_composedColour_X4_partShift : GoodIn wsX4_composedColour (va_wsS RX4 193 yX4_partShift wsX4_partShift) := goodIn_app (goodIn_of _ (by decide +kernel)) ggX4_composedColour_X4_partShift
theorem dX4_composedColour_0 : decode cX4_composedColour 0 = .ok (.iconst 0, 1) := by decide +kernel
theorem dX4_composedColour_1 : decode cX4_composedColour 1 = .ok (.istore_n 3, 1) := by decide +kernel
theorem dX4_composedColour_2 : decode cX4_composedColour 2 = .ok (.iconst 0, 1) := by decide +kernel
theorem dX4_composedColour_3 : decode cX4_composedColour 3 = .ok (.istore 4, 2) := by decide +kernel
theorem dX4_composedColour_5 : decode cX4_composedColour 5 = .ok (.iload 4, 2) := by decide +kernel
theorem dX4_composedColour_7 : decode cX4_composedColour 7 = .ok (.iconst 3, 1) := by decide +kernel
theorem dX4_composedColour_8 : decode cX4_composedColour 8 = .ok (.if_icmp .ge 45, 3) := by decide +kernel
theorem dX4_composedColour_11 : decode cX4_composedColour 11 = .ok (.iload_n 0, 1) := by decide +kernel
theorem dX4_composedColour_12 : decode cX4_composedColour 12 = .ok (.iload 4, 2) := by decide +kernel
theorem dX4_composedColour_14 : decode cX4_composedColour 14 = .ok (.invokestatic 196, 3) := by decide +kernel
theorem dX4_composedColour_17 : decode cX4_composedColour 17 = .ok (.iload_n 2, 1) := by decide +kernel
theorem dX4_composedColour_18 : decode cX4_composedColour 18 = .ok (.imul, 1) := by decide +kernel
theorem dX4_composedColour_19 : decode cX4_composedColour 19 = .ok (.iload_n 1, 1) := by decide +kernel
theorem dX4_composedColour_20 : decode cX4_composedColour 20 = .ok (.iload 4, 2) := by decide +kernel
theorem dX4_composedColour_22 : decode cX4_composedColour 22 = .ok (.invokestatic 196, 3) := by decide +kernel
theorem dX4_composedColour_25 : decode cX4_composedColour 25 = .ok (.bipush 16, 2) := by decide +kernel
theorem dX4_composedColour_27 : decode cX4_composedColour 27 = .ok (.iload_n 2, 1) := by decide +kernel
theorem dX4_composedColour_28 : decode cX4_composedColour 28 = .ok (.isub, 1) := by decide +kernel
theorem dX4_composedColour_29 : decode cX4_composedColour 29 = .ok (.imul, 1) := by decide +kernel
theorem dX4_composedColour_30 : decode cX4_composedColour 30 = .ok (.iadd, 1) := by decide +kernel
theorem dX4_composedColour_31 : decode cX4_composedColour 31 = .ok (.bipush 16, 2) := by decide +kernel
theorem dX4_composedColour_33 : decode cX4_composedColour 33 = .ok (.idiv, 1) := by decide +kernel
theorem dX4_composedColour_34 : decode cX4_composedColour 34 = .ok (.istore 5, 2) := by decide +kernel
theorem dX4_composedColour_36 : decode cX4_composedColour 36 = .ok (.iload_n 3, 1) := by decide +kernel
theorem dX4_composedColour_37 : decode cX4_composedColour 37 = .ok (.iload 5, 2) := by decide +kernel
theorem dX4_composedColour_39 : decode cX4_composedColour 39 = .ok (.iload 4, 2) := by decide +kernel
theorem dX4_composedColour_41 : decode cX4_composedColour 41 = .ok (.invokestatic 193, 3) := by decide +kernel
theorem dX4_composedColour_44 : decode cX4_composedColour 44 = .ok (.ishl, 1) := by decide +kernel
theorem dX4_composedColour_45 : decode cX4_composedColour 45 = .ok (.ior, 1) := by decide +kernel
theorem dX4_composedColour_46 : decode cX4_composedColour 46 = .ok (.istore_n 3, 1) := by decide +kernel
theorem dX4_composedColour_47 : decode cX4_composedColour 47 = .ok (.iinc 4 1, 3) := by decide +kernel
theorem dX4_composedColour_50 : decode cX4_composedColour 50 = .ok (.goto (-45), 3) := by decide +kernel
theorem dX4_composedColour_53 : decode cX4_composedColour 53 = .ok (.iload_n 3, 1) := by decide +kernel
theorem dX4_composedColour_54 : decode cX4_composedColour 54 = .ok (.ireturn, 1) := by decide +kernel
theorem dX4_sum_0 : decode cX4_sum 0 = .ok (.iconst 0, 1) := by decide +kernel
theorem dX4_sum_1 : decode cX4_sum 1 = .ok (.istore_n 1, 1) := by decide +kernel
theorem dX4_sum_2 : decode cX4_sum 2 = .ok (.aload_n 0, 1) := by decide +kernel
theorem dX4_sum_3 : decode cX4_sum 3 = .ok (.astore_n 2, 1) := by decide +kernel
theorem dX4_sum_4 : decode cX4_sum 4 = .ok (.aload_n 2, 1) := by decide +kernel
theorem dX4_sum_5 : decode cX4_sum 5 = .ok (.arraylength, 1) := by decide +kernel
theorem dX4_sum_6 : decode cX4_sum 6 = .ok (.istore_n 3, 1) := by decide +kernel
theorem dX4_sum_7 : decode cX4_sum 7 = .ok (.iconst 0, 1) := by decide +kernel
theorem dX4_sum_8 : decode cX4_sum 8 = .ok (.istore 4, 2) := by decide +kernel
theorem dX4_sum_10 : decode cX4_sum 10 = .ok (.iload 4, 2) := by decide +kernel
theorem dX4_sum_12 : decode cX4_sum 12 = .ok (.iload_n 3, 1) := by decide +kernel
theorem dX4_sum_13 : decode cX4_sum 13 = .ok (.if_icmp .ge 20, 3) := by decide +kernel
theorem dX4_sum_16 : decode cX4_sum 16 = .ok (.aload_n 2, 1) := by decide +kernel
theorem dX4_sum_17 : decode cX4_sum 17 = .ok (.iload 4, 2) := by decide +kernel
theorem dX4_sum_19 : decode cX4_sum 19 = .ok (.iaload, 1) := by decide +kernel
theorem dX4_sum_20 : decode cX4_sum 20 = .ok (.istore 5, 2) := by decide +kernel
theorem dX4_sum_22 : decode cX4_sum 22 = .ok (.iload_n 1, 1) := by decide +kernel
theorem dX4_sum_23 : decode cX4_sum 23 = .ok (.iload 5, 2) := by decide +kernel
theorem dX4_sum_25 : decode cX4_sum 25 = .ok (.iadd, 1) := by decide +kernel
theorem dX4_sum_26 : decode cX4_sum 26 = .ok (.istore_n 1, 1) := by decide +kernel
theorem dX4_sum_27 : decode cX4_sum 27 = .ok (.iinc 4 1, 3) := by decide +kernel
theorem dX4_sum_30 : decode cX4_sum 30 = .ok (.goto (-20), 3) := by decide +kernel
theorem dX4_sum_33 : decode cX4_sum 33 = .ok (.iload_n 1, 1) := by decide +kernel
theorem dX4_sum_34 : decode cX4_sum 34 = .ok (.ireturn, 1) := by decide +kernel
theorem dX4_sameColours_0 : decode cX4_sameColours 0 = .ok (.iconst 0, 1) := by decide +kernel
theorem dX4_sameColours_1 : decode cX4_sameColours 1 = .ok (.istore_n 2, 1) := by decide +kernel
theorem dX4_sameColours_2 : decode cX4_sameColours 2 = .ok (.iconst 0, 1) := by decide +kernel
theorem dX4_sameColours_3 : decode cX4_sameColours 3 = .ok (.istore_n 3, 1) := by decide +kernel
theorem dX4_sameColours_4 : decode cX4_sameColours 4 = .ok (.iload_n 3, 1) := by decide +kernel
theorem dX4_sameColours_5 : decode cX4_sameColours 5 = .ok (.bipush 48, 2) := by decide +kernel
theorem dX4_sameColours_7 : decode cX4_sameColours 7 = .ok (.if_icmp .ge 21, 3) := by decide +kernel
theorem dX4_sameColours_10 : decode cX4_sameColours 10 = .ok (.aload_n 0, 1) := by decide +kernel
theorem dX4_sameColours_11 : decode cX4_sameColours 11 = .ok (.iload_n 3, 1) := by decide +kernel
theorem dX4_sameColours_12 : decode cX4_sameColours 12 = .ok (.iaload, 1) := by decide +kernel
theorem dX4_sameColours_13 : decode cX4_sameColours 13 = .ok (.aload_n 1, 1) := by decide +kernel
theorem dX4_sameColours_14 : decode cX4_sameColours 14 = .ok (.iload_n 3, 1) := by decide +kernel
theorem dX4_sameColours_15 : decode cX4_sameColours 15 = .ok (.iaload, 1) := by decide +kernel
theorem dX4_sameColours_16 : decode cX4_sameColours 16 = .ok (.if_icmp .ne 6, 3) := by decide +kernel
theorem dX4_sameColours_19 : decode cX4_sameColours 19 = .ok (.iinc 2 1, 3) := by decide +kernel
theorem dX4_sameColours_22 : decode cX4_sameColours 22 = .ok (.iinc 3 1, 3) := by decide +kernel
theorem dX4_sameColours_25 : decode cX4_sameColours 25 = .ok (.goto (-21), 3) := by decide +kernel
theorem dX4_sameColours_28 : decode cX4_sameColours 28 = .ok (.iload_n 2, 1) := by decide +kernel
theorem dX4_sameColours_29 : decode cX4_sameColours 29 = .ok (.ireturn, 1) := by decide +kernel
theorem dX5_init_0 : decode cX5_init 0 = .ok (.aload_n 0, 1) := by decide +kernel
theorem dX5_init_1 : decode cX5_init 1 = .ok (.invokespecial 1, 3) := by decide +kernel
theorem dX5_init_4 : decode cX5_init 4 = .ok (.aload_n 0, 1) := by decide +kernel
theorem dX5_init_5 : decode cX5_init 5 = .ok (.sipush 151, 3) := by decide +kernel
theorem dX5_init_8 : decode cX5_init 8 = .ok (.newarray .int, 2) := by decide +kernel
theorem dX5_init_10 : decode cX5_init 10 = .ok (.putfield 7, 3) := by decide +kernel
theorem dX5_init_13 : decode cX5_init 13 = .ok (.aload_n 0, 1) := by decide +kernel
theorem dX5_init_14 : decode cX5_init 14 = .ok (.sipush 906, 3) := by decide +kernel
theorem dX5_init_17 : decode cX5_init 17 = .ok (.newarray .int, 2) := by decide +kernel
theorem dX5_init_19 : decode cX5_init 19 = .ok (.putfield 13, 3) := by decide +kernel
theorem dX5_init_22 : decode cX5_init 22 = .ok (.aload_n 0, 1) := by decide +kernel
theorem dX5_init_23 : decode cX5_init 23 = .ok (.sipush 302, 3) := by decide +kernel
theorem dX5_init_26 : decode cX5_init 26 = .ok (.newarray .int, 2) := by decide +kernel
theorem dX5_init_28 : decode cX5_init 28 = .ok (.putfield 16, 3) := by decide +kernel
theorem dX5_init_31 : decode cX5_init 31 = .ok (.aload_n 0, 1) := by decide +kernel
theorem dX5_init_32 : decode cX5_init 32 = .ok (.iconst 2, 1) := by decide +kernel
theorem dX5_init_33 : decode cX5_init 33 = .ok (.newarray .int, 2) := by decide +kernel
theorem dX5_init_35 : decode cX5_init 35 = .ok (.putfield 19, 3) := by decide +kernel
theorem dX5_init_38 : decode cX5_init 38 = .ok (.aload_n 0, 1) := by decide +kernel
theorem dX5_init_39 : decode cX5_init 39 = .ok (.bipush 48, 2) := by decide +kernel
theorem dX5_init_41 : decode cX5_init 41 = .ok (.newarray .int, 2) := by decide +kernel
theorem dX5_init_43 : decode cX5_init 43 = .ok (.putfield 22, 3) := by decide +kernel
theorem dX5_init_46 : decode cX5_init 46 = .ok (.aload_n 0, 1) := by decide +kernel
theorem dX5_init_47 : decode cX5_init 47 = .ok (.bipush 48, 2) := by decide +kernel
theorem dX5_init_49 : decode cX5_init 49 = .ok (.newarray .int, 2) := by decide +kernel
theorem dX5_init_51 : decode cX5_init 51 = .ok (.putfield 25, 3) := by decide +kernel
theorem dX5_init_54 : decode cX5_init 54 = .ok (.aload_n 0, 1) := by decide +kernel
theorem dX5_init_55 : decode cX5_init 55 = .ok (.bipush 48, 2) := by decide +kernel
theorem dX5_init_57 : decode cX5_init 57 = .ok (.newarray .int, 2) := by decide +kernel
theorem dX5_init_59 : decode cX5_init 59 = .ok (.putfield 28, 3) := by decide +kernel
theorem dX5_init_62 : decode cX5_init 62 = .ok (.aload_n 0, 1) := by decide +kernel
theorem dX5_init_63 : decode cX5_init 63 = .ok (.bipush 48, 2) := by decide +kernel
theorem dX5_init_65 : decode cX5_init 65 = .ok (.newarray .int, 2) := by decide +kernel
theorem dX5_init_67 : decode cX5_init 67 = .ok (.putfield 31, 3) := by decide +kernel
theorem dX5_init_70 : decode cX5_init 70 = .ok (.aload_n 0, 1) := by decide +kernel
theorem dX5_init_71 : decode cX5_init 71 = .ok (.bipush 48, 2) := by decide +kernel
theorem dX5_init_73 : decode cX5_init 73 = .ok (.newarray .int, 2) := by decide +kernel
theorem dX5_init_75 : decode cX5_init 75 = .ok (.putfield 34, 3) := by decide +kernel
theorem dX5_init_78 : decode cX5_init 78 = .ok (.aload_n 0, 1) := by decide +kernel
theorem dX5_init_79 : decode cX5_init 79 = .ok (.bipush 48, 2) := by decide +kernel
theorem dX5_init_81 : decode cX5_init 81 = .ok (.newarray .int, 2) := by decide +kernel
theorem dX5_init_83 : decode cX5_init 83 = .ok (.putfield 37, 3) := by decide +kernel
theorem dX5_init_86 : decode cX5_init 86 = .ok (.aload_n 0, 1) := by decide +kernel
theorem dX5_init_87 : decode cX5_init 87 = .ok (.bipush 48, 2) := by decide +kernel
theorem dX5_init_89 : decode cX5_init 89 = .ok (.newarray .int, 2) := by decide +kernel
theorem dX5_init_91 : decode cX5_init 91 = .ok (.putfield 40, 3) := by decide +kernel
theorem dX5_init_94 : decode cX5_init 94 = .ok (.aload_n 0, 1) := by decide +kernel
theorem dX5_init_95 : decode cX5_init 95 = .ok (.bipush 48, 2) := by decide +kernel
theorem dX5_init_97 : decode cX5_init 97 = .ok (.newarray .int, 2) := by decide +kernel
theorem dX5_init_99 : decode cX5_init 99 = .ok (.putfield 43, 3) := by decide +kernel
theorem dX5_init_102 : decode cX5_init 102 = .ok (.aload_n 0, 1) := by decide +kernel
theorem dX5_init_103 : decode cX5_init 103 = .ok (.bipush 8, 2) := by decide +kernel
theorem dX5_init_105 : decode cX5_init 105 = .ok (.newarray .int, 2) := by decide +kernel
theorem dX5_init_107 : decode cX5_init 107 = .ok (.putfield 46, 3) := by decide +kernel
theorem dX5_init_110 : decode cX5_init 110 = .ok (.aload_n 0, 1) := by decide +kernel
theorem dX5_init_111 : decode cX5_init 111 = .ok (.getfield 7, 3) := by decide +kernel
theorem dX5_init_114 : decode cX5_init 114 = .ok (.iconst 0, 1) := by decide +kernel
theorem dX5_init_115 : decode cX5_init 115 = .ok (.bipush 6, 2) := by decide +kernel
theorem dX5_init_117 : decode cX5_init 117 = .ok (.iastore, 1) := by decide +kernel
theorem dX5_init_118 : decode cX5_init 118 = .ok (.aload_n 0, 1) := by decide +kernel
theorem dX5_init_119 : decode cX5_init 119 = .ok (.getfield 7, 3) := by decide +kernel
theorem dX5_init_122 : decode cX5_init 122 = .ok (.iconst 1, 1) := by decide +kernel
theorem dX5_init_123 : decode cX5_init 123 = .ok (.bipush 18, 2) := by decide +kernel
theorem dX5_init_125 : decode cX5_init 125 = .ok (.iastore, 1) := by decide +kernel
theorem dX5_init_126 : decode cX5_init 126 = .ok (.aload_n 0, 1) := by decide +kernel
theorem dX5_init_127 : decode cX5_init 127 = .ok (.getfield 7, 3) := by decide +kernel
theorem dX5_init_130 : decode cX5_init 130 = .ok (.iconst 2, 1) := by decide +kernel
theorem dX5_init_131 : decode cX5_init 131 = .ok (.bipush 16, 2) := by decide +kernel
theorem dX5_init_133 : decode cX5_init 133 = .ok (.iastore, 1) := by decide +kernel
theorem dX5_init_134 : decode cX5_init 134 = .ok (.aload_n 0, 1) := by decide +kernel
theorem dX5_init_135 : decode cX5_init 135 = .ok (.getfield 7, 3) := by decide +kernel
theorem dX5_init_138 : decode cX5_init 138 = .ok (.iconst 3, 1) := by decide +kernel
theorem dX5_init_139 : decode cX5_init 139 = .ok (.bipush 8, 2) := by decide +kernel
theorem dX5_init_141 : decode cX5_init 141 = .ok (.iastore, 1) := by decide +kernel
theorem dX5_init_142 : decode cX5_init 142 = .ok (.aload_n 0, 1) := by decide +kernel
theorem dX5_init_143 : decode cX5_init 143 = .ok (.getfield 7, 3) := by decide +kernel
theorem dX5_init_146 : decode cX5_init 146 = .ok (.iconst 4, 1) := by decide +kernel
theorem dX5_init_147 : decode cX5_init 147 = .ok (.iconst 4, 1) := by decide +kernel
theorem dX5_init_148 : decode cX5_init 148 = .ok (.iastore, 1) := by decide +kernel
theorem dX5_init_149 : decode cX5_init 149 = .ok (.aload_n 0, 1) := by decide +kernel
theorem dX5_init_150 : decode cX5_init 150 = .ok (.getfield 7, 3) := by decide +kernel
theorem dX5_init_153 : decode cX5_init 153 = .ok (.bipush 6, 2) := by decide +kernel
theorem dX5_init_155 : decode cX5_init 155 = .ok (.sipush 240, 3) := by decide +kernel
theorem dX5_init_158 : decode cX5_init 158 = .ok (.iastore, 1) := by decide +kernel
theorem dX5_init_159 : decode cX5_init 159 = .ok (.return_, 1) := by decide +kernel
theorem dX5_in_0 : decode cX5_in 0 = .ok (.lload_n 0, 1) := by decide +kernel
theorem dX5_in_1 : decode cX5_in 1 = .ok (.lload_n 2, 1) := by decide +kernel
theorem dX5_in_2 : decode cX5_in 2 = .ok (.lcmp, 1) := by decide +kernel
theorem dX5_in_3 : decode cX5_in 3 = .ok (.ifCond .lt 14, 3) := by decide +kernel
theorem dX5_in_6 : decode cX5_in 6 = .ok (.lload_n 0, 1) := by decide +kernel
theorem dX5_in_7 : decode cX5_in 7 = .ok (.lload 4, 2) := by decide +kernel
theorem dX5_in_9 : decode cX5_in 9 = .ok (.lcmp, 1) := by decide +kernel
theorem dX5_in_10 : decode cX5_in 10 = .ok (.ifCond .gt 7, 3) := by decide +kernel
theorem dX5_in_13 : decode cX5_in 13 = .ok (.iconst 1, 1) := by decide +kernel
theorem dX5_in_14 : decode cX5_in 14 = .ok (.goto 4, 3) := by decide +kernel
theorem dX5_in_17 : decode cX5_in 17 = .ok (.iconst 0, 1) := by decide +kernel
theorem dX5_in_18 : decode cX5_in 18 = .ok (.ireturn, 1) := by decide +kernel
theorem dX5_changes_0 : decode cX5_changes 0 = .ok (.aload_n 0, 1) := by decide +kernel
theorem dX5_changes_1 : decode cX5_changes 1 = .ok (.getfield 49, 3) := by decide +kernel
theorem dX5_changes_4 : decode cX5_changes 4 = .ok (.bipush 6, 2) := by decide +kernel
theorem dX5_changes_6 : decode cX5_changes 6 = .ok (.if_icmp .ne 44, 3) := by decide +kernel
theorem dX5_changes_9 : decode cX5_changes 9 = .ok (.iconst 0, 1) := by decide +kernel
theorem dX5_changes_10 : decode cX5_changes 10 = .ok (.istore_n 1, 1) := by decide +kernel
theorem dX5_changes_11 : decode cX5_changes 11 = .ok (.iload_n 1, 1) := by decide +kernel
theorem dX5_changes_12 : decode cX5_changes 12 = .ok (.sipush 755, 3) := by decide +kernel
theorem dX5_changes_15 : decode cX5_changes 15 = .ok (.if_icmp .ge 25, 3) := by decide +kernel
theorem dX5_changes_18 : decode cX5_changes 18 = .ok (.aload_n 0, 1) := by decide +kernel
theorem dX5_changes_19 : decode cX5_changes 19 = .ok (.getfield 13, 3) := by decide +kernel
theorem dX5_changes_22 : decode cX5_changes 22 = .ok (.iload_n 1, 1) := by decide +kernel
theorem dX5_changes_23 : decode cX5_changes 23 = .ok (.aload_n 0, 1) := by decide +kernel
theorem dX5_changes_24 : decode cX5_changes 24 = .ok (.getfield 13, 3) := by decide +kernel
theorem dX5_changes_27 : decode cX5_changes 27 = .ok (.iload_n 1, 1) := by decide +kernel
theorem dX5_changes_28 : decode cX5_changes 28 = .ok (.sipush 151, 3) := by decide +kernel
theorem dX5_changes_31 : decode cX5_changes 31 = .ok (.iadd, 1) := by decide +kernel
theorem dX5_changes_32 : decode cX5_changes 32 = .ok (.iaload, 1) := by decide +kernel
theorem dX5_changes_33 : decode cX5_changes 33 = .ok (.iastore, 1) := by decide +kernel
theorem dX5_changes_34 : decode cX5_changes 34 = .ok (.iinc 1 1, 3) := by decide +kernel
theorem dX5_changes_37 : decode cX5_changes 37 = .ok (.goto (-26), 3) := by decide +kernel
theorem dX5_changes_40 : decode cX5_changes 40 = .ok (.aload_n 0, 1) := by decide +kernel
theorem dX5_changes_41 : decode cX5_changes 41 = .ok (.dup, 1) := by decide +kernel
theorem dX5_changes_42 : decode cX5_changes 42 = .ok (.getfield 49, 3) := by decide +kernel
theorem dX5_changes_45 : decode cX5_changes 45 = .ok (.iconst 1, 1) := by decide +kernel
theorem dX5_changes_46 : decode cX5_changes 46 = .ok (.isub, 1) := by decide +kernel
theorem dX5_changes_47 : decode cX5_changes 47 = .ok (.putfield 49, 3) := by decide +kernel
theorem dX5_changes_50 : decode cX5_changes 50 = .ok (.iconst 0, 1) := by decide +kernel
theorem dX5_changes_51 : decode cX5_changes 51 = .ok (.istore_n 1, 1) := by decide +kernel
theorem dX5_changes_52 : decode cX5_changes 52 = .ok (.iload_n 1, 1) := by decide +kernel
theorem dX5_changes_53 : decode cX5_changes 53 = .ok (.sipush 151, 3) := by decide +kernel
theorem dX5_changes_56 : decode cX5_changes 56 = .ok (.if_icmp .ge 30, 3) := by decide +kernel
theorem dX5_changes_59 : decode cX5_changes 59 = .ok (.aload_n 0, 1) := by decide +kernel
theorem dX5_changes_60 : decode cX5_changes 60 = .ok (.getfield 13, 3) := by decide +kernel
theorem dX5_changes_63 : decode cX5_changes 63 = .ok (.sipush 151, 3) := by decide +kernel
theorem dX5_changes_66 : decode cX5_changes 66 = .ok (.aload_n 0, 1) := by decide +kernel
theorem dX5_changes_67 : decode cX5_changes 67 = .ok (.getfield 49, 3) := by decide +kernel
theorem dX5_changes_70 : decode cX5_changes 70 = .ok (.imul, 1) := by decide +kernel
theorem dX5_changes_71 : decode cX5_changes 71 = .ok (.iload_n 1, 1) := by decide +kernel
theorem dX5_changes_72 : decode cX5_changes 72 = .ok (.iadd, 1) := by decide +kernel
theorem dX5_changes_73 : decode cX5_changes 73 = .ok (.aload_n 0, 1) := by decide +kernel
theorem dX5_changes_74 : decode cX5_changes 74 = .ok (.getfield 7, 3) := by decide +kernel
theorem dX5_changes_77 : decode cX5_changes 77 = .ok (.iload_n 1, 1) := by decide +kernel
theorem dX5_changes_78 : decode cX5_changes 78 = .ok (.iaload, 1) := by decide +kernel
theorem dX5_changes_79 : decode cX5_changes 79 = .ok (.iastore, 1) := by decide +kernel
theorem dX5_changes_80 : decode cX5_changes 80 = .ok (.iinc 1 1, 3) := by decide +kernel
theorem dX5_changes_83 : decode cX5_changes 83 = .ok (.goto (-31), 3) := by decide +kernel
theorem dX5_changes_86 : decode cX5_changes 86 = .ok (.aload_n 0, 1) := by decide +kernel
theorem dX5_changes_87 : decode cX5_changes 87 = .ok (.dup, 1) := by decide +kernel
theorem dX5_changes_88 : decode cX5_changes 88 = .ok (.getfield 49, 3) := by decide +kernel
theorem dX5_changes_91 : decode cX5_changes 91 = .ok (.iconst 1, 1) := by decide +kernel
theorem dX5_changes_92 : decode cX5_changes 92 = .ok (.iadd, 1) := by decide +kernel
theorem dX5_changes_93 : decode cX5_changes 93 = .ok (.putfield 49, 3) := by decide +kernel
theorem dX5_changes_96 : decode cX5_changes 96 = .ok (.return_, 1) := by decide +kernel
theorem dX5_partOf_0 : decode cX5_partOf 0 = .ok (.iload_n 0, 1) := by decide +kernel
theorem dX5_partOf_1 : decode cX5_partOf 1 = .ok (.bipush 8, 2) := by decide +kernel
theorem dX5_partOf_3 : decode cX5_partOf 3 = .ok (.iconst 4, 1) := by decide +kernel
theorem dX5_partOf_4 : decode cX5_partOf 4 = .ok (.iload_n 1, 1) := by decide +kernel
theorem dX5_partOf_5 : decode cX5_partOf 5 = .ok (.imul, 1) := by decide +kernel
theorem dX5_partOf_6 : decode cX5_partOf 6 = .ok (.isub, 1) := by decide +kernel
theorem dX5_partOf_7 : decode cX5_partOf 7 = .ok (.ishr, 1) := by decide +kernel
theorem dX5_partOf_8 : decode cX5_partOf 8 = .ok (.bipush 15, 2) := by decide +kernel
theorem dX5_partOf_10 : decode cX5_partOf 10 = .ok (.iand, 1) := by decide +kernel
theorem dX5_partOf_11 : decode cX5_partOf 11 = .ok (.ireturn, 1) := by decide +kernel
theorem dX5_off_0 : decode cX5_off 0 = .ok (.iload_n 0, 1) := by decide +kernel
theorem dX5_off_1 : decode cX5_off 1 = .ok (.ifCond .ge 8, 3) := by decide +kernel
theorem dX5_off_4 : decode cX5_off 4 = .ok (.iload_n 0, 1) := by decide +kernel
theorem dX5_off_5 : decode cX5_off 5 = .ok (.ineg, 1) := by decide +kernel
theorem dX5_off_6 : decode cX5_off 6 = .ok (.goto 4, 3) := by decide +kernel
theorem dX5_off_9 : decode cX5_off 9 = .ok (.iload_n 0, 1) := by decide +kernel
theorem dX5_off_10 : decode cX5_off 10 = .ok (.ireturn, 1) := by decide +kernel
set_option maxRecDepth 20000 in
theorem ggX5_distanceOf_X5_partOf : GoodIn wsX5_distanceOf wsX5_partOf := goodIn_r _ [4] (by decide +kernel) (by decide +kernel)
set_option maxRecDepth 20000 in
theorem gX5_distanceOf_X5_partOf : GoodIn wsX5_distanceOf (va_wsS RX5 53 yX5_partOf wsX5_partOf) := goodIn_app (goodIn_of _ (by decide +kernel)) ggX5_distanceOf_X5_partOf
set_option maxRecDepth 20000 in
theorem ggX5_distanceOf_X5_off : GoodIn wsX5_distanceOf wsX5_off := goodIn_r _ [7] (by decide +kernel) (by decide +kernel)
set_option maxRecDepth 20000 in
theorem gX5_distanceOf_X5_off : GoodIn wsX5_distanceOf (va_wsS RX5 57 yX5_off wsX5_off) := goodIn_app (goodIn_of _ (by decide +kernel)) ggX5_distanceOf_X5_off
theorem dX5_distanceOf_0 : decode cX5_distanceOf 0 = .ok (.iload_n 0, 1) := by decide +kernel
theorem dX5_distanceOf_1 : decode cX5_distanceOf 1 = .ok (.iconst 0, 1) := by decide +kernel
theorem dX5_distanceOf_2 : decode cX5_distanceOf 2 = .ok (.invokestatic 53, 3) := by decide +kernel
theorem dX5_distanceOf_5 : decode cX5_distanceOf 5 = .ok (.iload_n 1, 1) := by decide +kernel
theorem dX5_distanceOf_6 : decode cX5_distanceOf 6 = .ok (.iconst 0, 1) := by decide +kernel
theorem dX5_distanceOf_7 : decode cX5_distanceOf 7 = .ok (.invokestatic 53, 3) := by decide +kernel
theorem dX5_distanceOf_10 : decode cX5_distanceOf 10 = .ok (.isub, 1) := by decide +kernel
theorem dX5_distanceOf_11 : decode cX5_distanceOf 11 = .ok (.invokestatic 57, 3) := by decide +kernel
theorem dX5_distanceOf_14 : decode cX5_distanceOf 14 = .ok (.iload_n 0, 1) := by decide +kernel
theorem dX5_distanceOf_15 : decode cX5_distanceOf 15 = .ok (.iconst 1, 1) := by decide +kernel
theorem dX5_distanceOf_16 : decode cX5_distanceOf 16 = .ok (.invokestatic 53, 3) := by decide +kernel
theorem dX5_distanceOf_19 : decode cX5_distanceOf 19 = .ok (.iload_n 1, 1) := by decide +kernel
theorem dX5_distanceOf_20 : decode cX5_distanceOf 20 = .ok (.iconst 1, 1) := by decide +kernel
theorem dX5_distanceOf_21 : decode cX5_distanceOf 21 = .ok (.invokestatic 53, 3) := by decide +kernel
theorem dX5_distanceOf_24 : decode cX5_distanceOf 24 = .ok (.isub, 1) := by decide +kernel
theorem dX5_distanceOf_25 : decode cX5_distanceOf 25 = .ok (.invokestatic 57, 3) := by decide +kernel
theorem dX5_distanceOf_28 : decode cX5_distanceOf 28 = .ok (.iadd, 1) := by decide +kernel
theorem dX5_distanceOf_29 : decode cX5_distanceOf 29 = .ok (.iload_n 0, 1) := by decide +kernel
theorem dX5_distanceOf_30 : decode cX5_distanceOf 30 = .ok (.iconst 2, 1) := by decide +kernel
theorem dX5_distanceOf_31 : decode cX5_distanceOf 31 = .ok (.invokestatic 53, 3) := by decide +kernel
theorem dX5_distanceOf_34 : decode cX5_distanceOf 34 = .ok (.iload_n 1, 1) := by decide +kernel
theorem dX5_distanceOf_35 : decode cX5_distanceOf 35 = .ok (.iconst 2, 1) := by decide +kernel
theorem dX5_distanceOf_36 : decode cX5_distanceOf 36 = .ok (.invokestatic 53, 3) := by decide +kernel
theorem dX5_distanceOf_39 : decode cX5_distanceOf 39 = .ok (.isub, 1) := by decide +kernel
theorem dX5_distanceOf_40 : decode cX5_distanceOf 40 = .ok (.invokestatic 57, 3) := by decide +kernel
theorem dX5_distanceOf_43 : decode cX5_distanceOf 43 = .ok (.iadd, 1) := by decide +kernel
theorem dX5_distanceOf_44 : decode cX5_distanceOf 44 = .ok (.ireturn, 1) := by decide +kernel
set_option maxRecDepth 20000 in
theorem ggX5_mainPart_X5_partOf : GoodIn wsX5_mainPart wsX5_partOf := goodIn_r _ [5] (by decide +kernel) (by decide +kernel)
set_option maxRecDepth 20000 in
theorem gX5_mainPart_X5_partOf : GoodIn wsX5_mainPart (va_wsS RX5 53 yX5_partOf wsX5_partOf) := goodIn_app (goodIn_of _ (by decide +kernel)) ggX5_mainPart_X5_partOf
theorem dX5_mainPart_0 : decode cX5_mainPart 0 = .ok (.aload_n 0, 1) := by decide +kernel
theorem dX5_mainPart_1 : decode cX5_mainPart 1 = .ok (.getfield 7, 3) := by decide +kernel
theorem dX5_mainPart_4 : decode cX5_mainPart 4 = .ok (.bipush 6, 2) := by decide +kernel
theorem dX5_mainPart_6 : decode cX5_mainPart 6 = .ok (.iaload, 1) := by decide +kernel
theorem dX5_mainPart_7 : decode cX5_mainPart 7 = .ok (.istore_n 1, 1) := by decide +kernel
theorem dX5_mainPart_8 : decode cX5_mainPart 8 = .ok (.iload_n 1, 1) := by decide +kernel
theorem dX5_mainPart_9 : decode cX5_mainPart 9 = .ok (.iconst 1, 1) := by decide +kernel
theorem dX5_mainPart_10 : decode cX5_mainPart 10 = .ok (.invokestatic 53, 3) := by decide +kernel
theorem dX5_mainPart_13 : decode cX5_mainPart 13 = .ok (.iload_n 1, 1) := by decide +kernel
theorem dX5_mainPart_14 : decode cX5_mainPart 14 = .ok (.iconst 2, 1) := by decide +kernel
theorem dX5_mainPart_15 : decode cX5_mainPart 15 = .ok (.invokestatic 53, 3) := by decide +kernel
theorem dX5_mainPart_18 : decode cX5_mainPart 18 = .ok (.if_icmp .lt 7, 3) := by decide +kernel
theorem dX5_mainPart_21 : decode cX5_mainPart 21 = .ok (.iconst 1, 1) := by decide +kernel
theorem dX5_mainPart_22 : decode cX5_mainPart 22 = .ok (.goto 4, 3) := by decide +kernel
theorem dX5_mainPart_25 : decode cX5_mainPart 25 = .ok (.iconst 2, 1) := by decide +kernel
theorem dX5_mainPart_26 : decode cX5_mainPart 26 = .ok (.istore_n 2, 1) := by decide +kernel
theorem dX5_mainPart_27 : decode cX5_mainPart 27 = .ok (.iload_n 1, 1) := by decide +kernel
theorem dX5_mainPart_28 : decode cX5_mainPart 28 = .ok (.iconst 0, 1) := by decide +kernel
theorem dX5_mainPart_29 : decode cX5_mainPart 29 = .ok (.invokestatic 53, 3) := by decide +kernel
theorem dX5_mainPart_32 : decode cX5_mainPart 32 = .ok (.iload_n 1, 1) := by decide +kernel
theorem dX5_mainPart_33 : decode cX5_mainPart 33 = .ok (.iload_n 2, 1) := by decide +kernel
theorem dX5_mainPart_34 : decode cX5_mainPart 34 = .ok (.invokestatic 53, 3) := by decide +kernel
theorem dX5_mainPart_37 : decode cX5_mainPart 37 = .ok (.if_icmp .lt 7, 3) := by decide +kernel
theorem dX5_mainPart_40 : decode cX5_mainPart 40 = .ok (.iconst 0, 1) := by decide +kernel
theorem dX5_mainPart_41 : decode cX5_mainPart 41 = .ok (.goto 4, 3) := by decide +kernel
theorem dX5_mainPart_44 : decode cX5_mainPart 44 = .ok (.iload_n 2, 1) := by decide +kernel
theorem dX5_mainPart_45 : decode cX5_mainPart 45 = .ok (.ireturn, 1) := by decide +kernel
theorem dX5_greater_0 : decode cX5_greater 0 = .ok (.iload_n 0, 1) := by decide +kernel
theorem dX5_greater_1 : decode cX5_greater 1 = .ok (.iload_n 1, 1) := by decide +kernel
theorem dX5_greater_2 : decode cX5_greater 2 = .ok (.if_icmp .le 7, 3) := by decide +kernel
theorem dX5_greater_5 : decode cX5_greater 5 = .ok (.iload_n 0, 1) := by decide +kernel
theorem dX5_greater_6 : decode cX5_greater 6 = .ok (.goto 4, 3) := by decide +kernel
theorem dX5_greater_9 : decode cX5_greater 9 = .ok (.iload_n 1, 1) := by decide +kernel
theorem dX5_greater_10 : decode cX5_greater 10 = .ok (.ireturn, 1) := by decide +kernel
set_option maxRecDepth 20000 in
theorem ggX5_spillOf_X5_partOf : GoodIn wsX5_spillOf wsX5_partOf := goodIn_r _ [4] (by decide +kernel) (by decide +kernel)
set_option maxRecDepth 20000 in
theorem gX5_spillOf_X5_partOf : GoodIn wsX5_spillOf (va_wsS RX5 53 yX5_partOf wsX5_partOf) := goodIn_app (goodIn_of _ (by decide +kernel)) ggX5_spillOf_X5_partOf
set_option maxRecDepth 20000 in
theorem ggX5_spillOf_X5_greater : GoodIn wsX5_spillOf wsX5_greater := goodIn_r _ [7] (by decide +kernel) (by decide +kernel)
set_option maxRecDepth 20000 in
theorem gX5_spillOf_X5_greater : GoodIn wsX5_spillOf (va_wsS RX5 61 yX5_greater wsX5_greater) := goodIn_app (goodIn_of _ (by decide +kernel)) ggX5_spillOf_X5_greater
theorem dX5_spillOf_0 : decode cX5_spillOf 0 = .ok (.iload_n 0, 1) := by decide +kernel
theorem dX5_spillOf_1 : decode cX5_spillOf 1 = .ok (.iload_n 1, 1) := by decide +kernel
theorem dX5_spillOf_2 : decode cX5_spillOf 2 = .ok (.ifCond .ne 7, 3) := by decide +kernel
theorem dX5_spillOf_5 : decode cX5_spillOf 5 = .ok (.iconst 1, 1) := by decide +kernel
theorem dX5_spillOf_6 : decode cX5_spillOf 6 = .ok (.goto 4, 3) := by decide +kernel
theorem dX5_spillOf_9 : decode cX5_spillOf 9 = .ok (.iconst 0, 1) := by decide +kernel
theorem dX5_spillOf_10 : decode cX5_spillOf 10 = .ok (.invokestatic 53, 3) := by decide +kernel
theorem dX5_spillOf_13 : decode cX5_spillOf 13 = .ok (.iload_n 0, 1) := by decide +kernel
theorem dX5_spillOf_14 : decode cX5_spillOf 14 = .ok (.iload_n 1, 1) := by decide +kernel
theorem dX5_spillOf_15 : decode cX5_spillOf 15 = .ok (.iconst 2, 1) := by decide +kernel
theorem dX5_spillOf_16 : decode cX5_spillOf 16 = .ok (.if_icmp .ne 7, 3) := by decide +kernel
theorem dX5_spillOf_19 : decode cX5_spillOf 19 = .ok (.iconst 1, 1) := by decide +kernel
theorem dX5_spillOf_20 : decode cX5_spillOf 20 = .ok (.goto 4, 3) := by decide +kernel
theorem dX5_spillOf_23 : decode cX5_spillOf 23 = .ok (.iconst 2, 1) := by decide +kernel
theorem dX5_spillOf_24 : decode cX5_spillOf 24 = .ok (.invokestatic 53, 3) := by decide +kernel
theorem dX5_spillOf_27 : decode cX5_spillOf 27 = .ok (.invokestatic 61, 3) := by decide +kernel
theorem dX5_spillOf_30 : decode cX5_spillOf 30 = .ok (.istore_n 2, 1) := by decide +kernel
theorem dX5_spillOf_31 : decode cX5_spillOf 31 = .ok (.iconst 0, 1) := by decide +kernel
theorem dX5_spillOf_32 : decode cX5_spillOf 32 = .ok (.iload_n 0, 1) := by decide +kernel
theorem dX5_spillOf_33 : decode cX5_spillOf 33 = .ok (.iload_n 1, 1) := by decide +kernel
theorem dX5_spillOf_34 : decode cX5_spillOf 34 = .ok (.invokestatic 53, 3) := by decide +kernel
theorem dX5_spillOf_37 : decode cX5_spillOf 37 = .ok (.iload_n 2, 1) := by decide +kernel
theorem dX5_spillOf_38 : decode cX5_spillOf 38 = .ok (.isub, 1) := by decide +kernel
theorem dX5_spillOf_39 : decode cX5_spillOf 39 = .ok (.invokestatic 61, 3) := by decide +kernel
theorem dX5_spillOf_42 : decode cX5_spillOf 42 = .ok (.ireturn, 1) := by decide +kernel
set_option maxRecDepth 20000 in
theorem ggX5_beside_X5_in : GoodIn wsX5_beside wsX5_in := goodIn_r _ [6] (by decide +kernel) (by decide +kernel)
set_option maxRecDepth 20000 in
theorem gX5_beside_X5_in : GoodIn wsX5_beside (va_wsS RX5 66 yX5_in wsX5_in) := goodIn_app (goodIn_of _ (by decide +kernel)) ggX5_beside_X5_in
theorem dX5_beside_0 : decode cX5_beside 0 = .ok (.iload_n 0, 1) := by decide +kernel
theorem dX5_beside_1 : decode cX5_beside 1 = .ok (.bipush 8, 2) := by decide +kernel
theorem dX5_beside_3 : decode cX5_beside 3 = .ok (.irem, 1) := by decide +kernel
theorem dX5_beside_4 : decode cX5_beside 4 = .ok (.iload_n 1, 1) := by decide +kernel
theorem dX5_beside_5 : decode cX5_beside 5 = .ok (.ifCond .ne 7, 3) := by decide +kernel
theorem dX5_beside_8 : decode cX5_beside 8 = .ok (.iconst (-1), 1) := by decide +kernel
theorem dX5_beside_9 : decode cX5_beside 9 = .ok (.goto 13, 3) := by decide +kernel
theorem dX5_beside_12 : decode cX5_beside 12 = .ok (.iload_n 1, 1) := by decide +kernel
theorem dX5_beside_13 : decode cX5_beside 13 = .ok (.iconst 1, 1) := by decide +kernel
theorem dX5_beside_14 : decode cX5_beside 14 = .ok (.if_icmp .ne 7, 3) := by decide +kernel
theorem dX5_beside_17 : decode cX5_beside 17 = .ok (.iconst 1, 1) := by decide +kernel
theorem dX5_beside_18 : decode cX5_beside 18 = .ok (.goto 4, 3) := by decide +kernel
theorem dX5_beside_21 : decode cX5_beside 21 = .ok (.iconst 0, 1) := by decide +kernel
theorem dX5_beside_22 : decode cX5_beside 22 = .ok (.iadd, 1) := by decide +kernel
theorem dX5_beside_23 : decode cX5_beside 23 = .ok (.istore_n 2, 1) := by decide +kernel
theorem dX5_beside_24 : decode cX5_beside 24 = .ok (.iload_n 0, 1) := by decide +kernel
theorem dX5_beside_25 : decode cX5_beside 25 = .ok (.bipush 8, 2) := by decide +kernel
theorem dX5_beside_27 : decode cX5_beside 27 = .ok (.idiv, 1) := by decide +kernel
theorem dX5_beside_28 : decode cX5_beside 28 = .ok (.iload_n 1, 1) := by decide +kernel
theorem dX5_beside_29 : decode cX5_beside 29 = .ok (.iconst 2, 1) := by decide +kernel
theorem dX5_beside_30 : decode cX5_beside 30 = .ok (.if_icmp .ne 7, 3) := by decide +kernel
theorem dX5_beside_33 : decode cX5_beside 33 = .ok (.iconst (-1), 1) := by decide +kernel
theorem dX5_beside_34 : decode cX5_beside 34 = .ok (.goto 13, 3) := by decide +kernel
theorem dX5_beside_37 : decode cX5_beside 37 = .ok (.iload_n 1, 1) := by decide +kernel
theorem dX5_beside_38 : decode cX5_beside 38 = .ok (.iconst 3, 1) := by decide +kernel
theorem dX5_beside_39 : decode cX5_beside 39 = .ok (.if_icmp .ne 7, 3) := by decide +kernel
theorem dX5_beside_42 : decode cX5_beside 42 = .ok (.iconst 1, 1) := by decide +kernel
theorem dX5_beside_43 : decode cX5_beside 43 = .ok (.goto 4, 3) := by decide +kernel
theorem dX5_beside_46 : decode cX5_beside 46 = .ok (.iconst 0, 1) := by decide +kernel
theorem dX5_beside_47 : decode cX5_beside 47 = .ok (.iadd, 1) := by decide +kernel
theorem dX5_beside_48 : decode cX5_beside 48 = .ok (.istore_n 3, 1) := by decide +kernel
theorem dX5_beside_49 : decode cX5_beside 49 = .ok (.iload_n 2, 1) := by decide +kernel
theorem dX5_beside_50 : decode cX5_beside 50 = .ok (.i2l, 1) := by decide +kernel
theorem dX5_beside_51 : decode cX5_beside 51 = .ok (.lconst 0, 1) := by decide +kernel
theorem dX5_beside_52 : decode cX5_beside 52 = .ok (.ldc2_w 64, 3) := by decide +kernel
theorem dX5_beside_55 : decode cX5_beside 55 = .ok (.invokestatic 66, 3) := by decide +kernel
theorem dX5_beside_58 : decode cX5_beside 58 = .ok (.ifCond .eq 24, 3) := by decide +kernel
theorem dX5_beside_61 : decode cX5_beside 61 = .ok (.iload_n 3, 1) := by decide +kernel
theorem dX5_beside_62 : decode cX5_beside 62 = .ok (.i2l, 1) := by decide +kernel
theorem dX5_beside_63 : decode cX5_beside 63 = .ok (.lconst 0, 1) := by decide +kernel
theorem dX5_beside_64 : decode cX5_beside 64 = .ok (.ldc2_w 70, 3) := by decide +kernel
theorem dX5_beside_67 : decode cX5_beside 67 = .ok (.invokestatic 66, 3) := by decide +kernel
theorem dX5_beside_70 : decode cX5_beside 70 = .ok (.ifCond .eq 12, 3) := by decide +kernel
theorem dX5_beside_73 : decode cX5_beside 73 = .ok (.bipush 8, 2) := by decide +kernel
theorem dX5_beside_75 : decode cX5_beside 75 = .ok (.iload_n 3, 1) := by decide +kernel
theorem dX5_beside_76 : decode cX5_beside 76 = .ok (.imul, 1) := by decide +kernel
theorem dX5_beside_77 : decode cX5_beside 77 = .ok (.iload_n 2, 1) := by decide +kernel
theorem dX5_beside_78 : decode cX5_beside 78 = .ok (.iadd, 1) := by decide +kernel
theorem dX5_beside_79 : decode cX5_beside 79 = .ok (.goto 5, 3) := by decide +kernel
theorem dX5_beside_82 : decode cX5_beside 82 = .ok (.bipush (-6), 2) := by decide +kernel
theorem dX5_beside_84 : decode cX5_beside 84 = .ok (.ireturn, 1) := by decide +kernel
theorem dX5_isEdge_0 : decode cX5_isEdge 0 = .ok (.iload_n 0, 1) := by decide +kernel
theorem dX5_isEdge_1 : decode cX5_isEdge 1 = .ok (.bipush 8, 2) := by decide +kernel
theorem dX5_isEdge_3 : decode cX5_isEdge 3 = .ok (.irem, 1) := by decide +kernel
theorem dX5_isEdge_4 : decode cX5_isEdge 4 = .ok (.ifCond .eq 24, 3) := by decide +kernel
theorem dX5_isEdge_7 : decode cX5_isEdge 7 = .ok (.iload_n 0, 1) := by decide +kernel
theorem dX5_isEdge_8 : decode cX5_isEdge 8 = .ok (.bipush 8, 2) := by decide +kernel
theorem dX5_isEdge_10 : decode cX5_isEdge 10 = .ok (.irem, 1) := by decide +kernel
theorem dX5_isEdge_11 : decode cX5_isEdge 11 = .ok (.bipush 7, 2) := by decide +kernel
theorem dX5_isEdge_13 : decode cX5_isEdge 13 = .ok (.if_icmp .eq 15, 3) := by decide +kernel
theorem dX5_isEdge_16 : decode cX5_isEdge 16 = .ok (.iload_n 0, 1) := by decide +kernel
theorem dX5_isEdge_17 : decode cX5_isEdge 17 = .ok (.bipush 8, 2) := by decide +kernel
theorem dX5_isEdge_19 : decode cX5_isEdge 19 = .ok (.if_icmp .lt 9, 3) := by decide +kernel
theorem dX5_isEdge_22 : decode cX5_isEdge 22 = .ok (.iload_n 0, 1) := by decide +kernel
theorem dX5_isEdge_23 : decode cX5_isEdge 23 = .ok (.bipush 40, 2) := by decide +kernel
theorem dX5_isEdge_25 : decode cX5_isEdge 25 = .ok (.if_icmp .lt 7, 3) := by decide +kernel
theorem dX5_isEdge_28 : decode cX5_isEdge 28 = .ok (.iconst 1, 1) := by decide +kernel
theorem dX5_isEdge_29 : decode cX5_isEdge 29 = .ok (.goto 4, 3) := by decide +kernel
theorem dX5_isEdge_32 : decode cX5_isEdge 32 = .ok (.iconst 0, 1) := by decide +kernel
theorem dX5_isEdge_33 : decode cX5_isEdge 33 = .ok (.ireturn, 1) := by decide +kernel
theorem dX5_rawOf_0 : decode cX5_rawOf 0 = .ok (.iload_n 1, 1) := by decide +kernel
theorem dX5_rawOf_1 : decode cX5_rawOf 1 = .ok (.aload_n 0, 1) := by decide +kernel
theorem dX5_rawOf_2 : decode cX5_rawOf 2 = .ok (.getfield 7, 3) := by decide +kernel
theorem dX5_rawOf_5 : decode cX5_rawOf 5 = .ok (.iconst 0, 1) := by decide +kernel
theorem dX5_rawOf_6 : decode cX5_rawOf 6 = .ok (.iaload, 1) := by decide +kernel
theorem dX5_rawOf_7 : decode cX5_rawOf 7 = .ok (.if_icmp .gt 7, 3) := by decide +kernel
theorem dX5_rawOf_10 : decode cX5_rawOf 10 = .ok (.iconst 0, 1) := by decide +kernel
theorem dX5_rawOf_11 : decode cX5_rawOf 11 = .ok (.goto 43, 3) := by decide +kernel
theorem dX5_rawOf_14 : decode cX5_rawOf 14 = .ok (.iload_n 1, 1) := by decide +kernel
theorem dX5_rawOf_15 : decode cX5_rawOf 15 = .ok (.aload_n 0, 1) := by decide +kernel
theorem dX5_rawOf_16 : decode cX5_rawOf 16 = .ok (.getfield 7, 3) := by decide +kernel
theorem dX5_rawOf_19 : decode cX5_rawOf 19 = .ok (.iconst 1, 1) := by decide +kernel
theorem dX5_rawOf_20 : decode cX5_rawOf 20 = .ok (.iaload, 1) := by decide +kernel
theorem dX5_rawOf_21 : decode cX5_rawOf 21 = .ok (.if_icmp .lt 8, 3) := by decide +kernel
theorem dX5_rawOf_24 : decode cX5_rawOf 24 = .ok (.bipush 16, 2) := by decide +kernel
theorem dX5_rawOf_26 : decode cX5_rawOf 26 = .ok (.goto 28, 3) := by decide +kernel
theorem dX5_rawOf_29 : decode cX5_rawOf 29 = .ok (.bipush 16, 2) := by decide +kernel
theorem dX5_rawOf_31 : decode cX5_rawOf 31 = .ok (.iload_n 1, 1) := by decide +kernel
theorem dX5_rawOf_32 : decode cX5_rawOf 32 = .ok (.aload_n 0, 1) := by decide +kernel
theorem dX5_rawOf_33 : decode cX5_rawOf 33 = .ok (.getfield 7, 3) := by decide +kernel
theorem dX5_rawOf_36 : decode cX5_rawOf 36 = .ok (.iconst 0, 1) := by decide +kernel
theorem dX5_rawOf_37 : decode cX5_rawOf 37 = .ok (.iaload, 1) := by decide +kernel
theorem dX5_rawOf_38 : decode cX5_rawOf 38 = .ok (.isub, 1) := by decide +kernel
theorem dX5_rawOf_39 : decode cX5_rawOf 39 = .ok (.imul, 1) := by decide +kernel
theorem dX5_rawOf_40 : decode cX5_rawOf 40 = .ok (.aload_n 0, 1) := by decide +kernel
theorem dX5_rawOf_41 : decode cX5_rawOf 41 = .ok (.getfield 7, 3) := by decide +kernel
theorem dX5_rawOf_44 : decode cX5_rawOf 44 = .ok (.iconst 1, 1) := by decide +kernel
theorem dX5_rawOf_45 : decode cX5_rawOf 45 = .ok (.iaload, 1) := by decide +kernel
theorem dX5_rawOf_46 : decode cX5_rawOf 46 = .ok (.aload_n 0, 1) := by decide +kernel
theorem dX5_rawOf_47 : decode cX5_rawOf 47 = .ok (.getfield 7, 3) := by decide +kernel
theorem dX5_rawOf_50 : decode cX5_rawOf 50 = .ok (.iconst 0, 1) := by decide +kernel
theorem dX5_rawOf_51 : decode cX5_rawOf 51 = .ok (.iaload, 1) := by decide +kernel
theorem dX5_rawOf_52 : decode cX5_rawOf 52 = .ok (.isub, 1) := by decide +kernel
theorem dX5_rawOf_53 : decode cX5_rawOf 53 = .ok (.idiv, 1) := by decide +kernel
theorem dX5_rawOf_54 : decode cX5_rawOf 54 = .ok (.ireturn, 1) := by decide +kernel
set_option maxRecDepth 20000 in
theorem ggX5_opens_X5_isEdge : GoodIn wsX5_opens wsX5_isEdge := goodIn_r _ [6] (by decide +kernel) (by decide +kernel)
set_option maxRecDepth 20000 in
theorem gX5_opens_X5_isEdge : GoodIn wsX5_opens (va_wsS RX5 72 yX5_isEdge wsX5_isEdge) := goodIn_app (goodIn_of _ (by decide +kernel)) ggX5_opens_X5_isEdge
set_option maxRecDepth 20000 in
theorem ggX5_opens_X5_beside : GoodIn wsX5_opens wsX5_beside := goodIn_r _ [9, 10, 11, 12, 13, 5, 14] (by decide +kernel) (by decide +kernel)
set_option maxRecDepth 20000 in
theorem gX5_opens_X5_beside : GoodIn wsX5_opens (va_wsS RX5 76 yX5_beside wsX5_beside) := goodIn_app (goodIn_of _ (by decide +kernel)) ggX5_opens_X5_beside
theorem dX5_opens_0 : decode cX5_opens 0 = .ok (.iconst 0, 1) := by decide +kernel
theorem dX5_opens_1 : decode cX5_opens 1 = .ok (.istore_n 1, 1) := by decide +kernel
theorem dX5_opens_2 : decode cX5_opens 2 = .ok (.iload_n 1, 1) := by decide +kernel
theorem dX5_opens_3 : decode cX5_opens 3 = .ok (.bipush 48, 2) := by decide +kernel
theorem dX5_opens_5 : decode cX5_opens 5 = .ok (.if_icmp .ge 38, 3) := by decide +kernel
theorem dX5_opens_8 : decode cX5_opens 8 = .ok (.aload_n 0, 1) := by decide +kernel
theorem dX5_opens_9 : decode cX5_opens 9 = .ok (.getfield 37, 3) := by decide +kernel
theorem dX5_opens_12 : decode cX5_opens 12 = .ok (.iload_n 1, 1) := by decide +kernel
theorem dX5_opens_13 : decode cX5_opens 13 = .ok (.aload_n 0, 1) := by decide +kernel
theorem dX5_opens_14 : decode cX5_opens 14 = .ok (.getfield 22, 3) := by decide +kernel
theorem dX5_opens_17 : decode cX5_opens 17 = .ok (.iload_n 1, 1) := by decide +kernel
theorem dX5_opens_18 : decode cX5_opens 18 = .ok (.iaload, 1) := by decide +kernel
theorem dX5_opens_19 : decode cX5_opens 19 = .ok (.bipush 16, 2) := by decide +kernel
theorem dX5_opens_21 : decode cX5_opens 21 = .ok (.if_icmp .ge 14, 3) := by decide +kernel
theorem dX5_opens_24 : decode cX5_opens 24 = .ok (.iload_n 1, 1) := by decide +kernel
theorem dX5_opens_25 : decode cX5_opens 25 = .ok (.invokestatic 72, 3) := by decide +kernel
theorem dX5_opens_28 : decode cX5_opens 28 = .ok (.ifCond .eq 7, 3) := by decide +kernel
theorem dX5_opens_31 : decode cX5_opens 31 = .ok (.iconst 1, 1) := by decide +kernel
theorem dX5_opens_32 : decode cX5_opens 32 = .ok (.goto 4, 3) := by decide +kernel
theorem dX5_opens_35 : decode cX5_opens 35 = .ok (.iconst 0, 1) := by decide +kernel
theorem dX5_opens_36 : decode cX5_opens 36 = .ok (.iastore, 1) := by decide +kernel
theorem dX5_opens_37 : decode cX5_opens 37 = .ok (.iinc 1 1, 3) := by decide +kernel
theorem dX5_opens_40 : decode cX5_opens 40 = .ok (.goto (-38), 3) := by decide +kernel
theorem dX5_opens_43 : decode cX5_opens 43 = .ok (.iconst 1, 1) := by decide +kernel
theorem dX5_opens_44 : decode cX5_opens 44 = .ok (.istore_n 1, 1) := by decide +kernel
theorem dX5_opens_45 : decode cX5_opens 45 = .ok (.iload_n 1, 1) := by decide +kernel
theorem dX5_opens_46 : decode cX5_opens 46 = .ok (.ifCond .eq 83, 3) := by decide +kernel
theorem dX5_opens_49 : decode cX5_opens 49 = .ok (.iconst 0, 1) := by decide +kernel
theorem dX5_opens_50 : decode cX5_opens 50 = .ok (.istore_n 1, 1) := by decide +kernel
theorem dX5_opens_51 : decode cX5_opens 51 = .ok (.iconst 0, 1) := by decide +kernel
theorem dX5_opens_52 : decode cX5_opens 52 = .ok (.istore_n 2, 1) := by decide +kernel
theorem dX5_opens_53 : decode cX5_opens 53 = .ok (.iload_n 2, 1) := by decide +kernel
theorem dX5_opens_54 : decode cX5_opens 54 = .ok (.sipush 192, 3) := by decide +kernel
theorem dX5_opens_57 : decode cX5_opens 57 = .ok (.if_icmp .ge 69, 3) := by decide +kernel
theorem dX5_opens_60 : decode cX5_opens 60 = .ok (.iload_n 2, 1) := by decide +kernel
theorem dX5_opens_61 : decode cX5_opens 61 = .ok (.iconst 4, 1) := by decide +kernel
theorem dX5_opens_62 : decode cX5_opens 62 = .ok (.idiv, 1) := by decide +kernel
theorem dX5_opens_63 : decode cX5_opens 63 = .ok (.istore_n 3, 1) := by decide +kernel
theorem dX5_opens_64 : decode cX5_opens 64 = .ok (.iload_n 3, 1) := by decide +kernel
theorem dX5_opens_65 : decode cX5_opens 65 = .ok (.iload_n 2, 1) := by decide +kernel
theorem dX5_opens_66 : decode cX5_opens 66 = .ok (.iconst 4, 1) := by decide +kernel
theorem dX5_opens_67 : decode cX5_opens 67 = .ok (.irem, 1) := by decide +kernel
theorem dX5_opens_68 : decode cX5_opens 68 = .ok (.invokestatic 76, 3) := by decide +kernel
theorem dX5_opens_71 : decode cX5_opens 71 = .ok (.istore 4, 2) := by decide +kernel
theorem dX5_opens_73 : decode cX5_opens 73 = .ok (.aload_n 0, 1) := by decide +kernel
theorem dX5_opens_74 : decode cX5_opens 74 = .ok (.getfield 22, 3) := by decide +kernel
theorem dX5_opens_77 : decode cX5_opens 77 = .ok (.iload_n 3, 1) := by decide +kernel
theorem dX5_opens_78 : decode cX5_opens 78 = .ok (.iaload, 1) := by decide +kernel
theorem dX5_opens_79 : decode cX5_opens 79 = .ok (.bipush 16, 2) := by decide +kernel
theorem dX5_opens_81 : decode cX5_opens 81 = .ok (.if_icmp .ge 39, 3) := by decide +kernel
theorem dX5_opens_84 : decode cX5_opens 84 = .ok (.aload_n 0, 1) := by decide +kernel
theorem dX5_opens_85 : decode cX5_opens 85 = .ok (.getfield 37, 3) := by decide +kernel
theorem dX5_opens_88 : decode cX5_opens 88 = .ok (.iload_n 3, 1) := by decide +kernel
theorem dX5_opens_89 : decode cX5_opens 89 = .ok (.iaload, 1) := by decide +kernel
theorem dX5_opens_90 : decode cX5_opens 90 = .ok (.ifCond .ne 30, 3) := by decide +kernel
theorem dX5_opens_93 : decode cX5_opens 93 = .ok (.iload 4, 2) := by decide +kernel
theorem dX5_opens_95 : decode cX5_opens 95 = .ok (.bipush (-6), 2) := by decide +kernel
theorem dX5_opens_97 : decode cX5_opens 97 = .ok (.if_icmp .eq 23, 3) := by decide +kernel
theorem dX5_opens_100 : decode cX5_opens 100 = .ok (.aload_n 0, 1) := by decide +kernel
theorem dX5_opens_101 : decode cX5_opens 101 = .ok (.getfield 37, 3) := by decide +kernel
theorem dX5_opens_104 : decode cX5_opens 104 = .ok (.iload 4, 2) := by decide +kernel
theorem dX5_opens_106 : decode cX5_opens 106 = .ok (.iaload, 1) := by decide +kernel
theorem dX5_opens_107 : decode cX5_opens 107 = .ok (.iconst 1, 1) := by decide +kernel
theorem dX5_opens_108 : decode cX5_opens 108 = .ok (.if_icmp .ne 12, 3) := by decide +kernel
theorem dX5_opens_111 : decode cX5_opens 111 = .ok (.aload_n 0, 1) := by decide +kernel
theorem dX5_opens_112 : decode cX5_opens 112 = .ok (.getfield 37, 3) := by decide +kernel
theorem dX5_opens_115 : decode cX5_opens 115 = .ok (.iload_n 3, 1) := by decide +kernel
theorem dX5_opens_116 : decode cX5_opens 116 = .ok (.iconst 1, 1) := by decide +kernel
theorem dX5_opens_117 : decode cX5_opens 117 = .ok (.iastore, 1) := by decide +kernel
theorem dX5_opens_118 : decode cX5_opens 118 = .ok (.iconst 1, 1) := by decide +kernel
theorem dX5_opens_119 : decode cX5_opens 119 = .ok (.istore_n 1, 1) := by decide +kernel
theorem dX5_opens_120 : decode cX5_opens 120 = .ok (.iinc 2 1, 3) := by decide +kernel
theorem dX5_opens_123 : decode cX5_opens 123 = .ok (.goto (-70), 3) := by decide +kernel
theorem dX5_opens_126 : decode cX5_opens 126 = .ok (.goto (-81), 3) := by decide +kernel
theorem dX5_opens_129 : decode cX5_opens 129 = .ok (.return_, 1) := by decide +kernel
set_option maxRecDepth 20000 in
theorem ggX5_isBeside_X5_beside : GoodIn wsX5_isBeside wsX5_beside := goodIn_r _ [5, 6, 7, 8, 9, 4, 10] (by decide +kernel) (by decide +kernel)
set_option maxRecDepth 20000 in
theorem gX5_isBeside_X5_beside : GoodIn wsX5_isBeside (va_wsS RX5 76 yX5_beside wsX5_beside) := goodIn_app (goodIn_of _ (by decide +kernel)) ggX5_isBeside_X5_beside
theorem dX5_isBeside_0 : decode cX5_isBeside 0 = .ok (.iconst 0, 1) := by decide +kernel
theorem dX5_isBeside_1 : decode cX5_isBeside 1 = .ok (.istore_n 3, 1) := by decide +kernel
theorem dX5_isBeside_2 : decode cX5_isBeside 2 = .ok (.iconst 0, 1) := by decide +kernel
theorem dX5_isBeside_3 : decode cX5_isBeside 3 = .ok (.istore 4, 2) := by decide +kernel
theorem dX5_isBeside_5 : decode cX5_isBeside 5 = .ok (.iload 4, 2) := by decide +kernel
theorem dX5_isBeside_7 : decode cX5_isBeside 7 = .ok (.iconst 4, 1) := by decide +kernel
theorem dX5_isBeside_8 : decode cX5_isBeside 8 = .ok (.if_icmp .ge 45, 3) := by decide +kernel
theorem dX5_isBeside_11 : decode cX5_isBeside 11 = .ok (.iload_n 1, 1) := by decide +kernel
theorem dX5_isBeside_12 : decode cX5_isBeside 12 = .ok (.iload 4, 2) := by decide +kernel
theorem dX5_isBeside_14 : decode cX5_isBeside 14 = .ok (.invokestatic 76, 3) := by decide +kernel
theorem dX5_isBeside_17 : decode cX5_isBeside 17 = .ok (.istore 5, 2) := by decide +kernel
theorem dX5_isBeside_19 : decode cX5_isBeside 19 = .ok (.iload_n 3, 1) := by decide +kernel
theorem dX5_isBeside_20 : decode cX5_isBeside 20 = .ok (.ifCond .ne 21, 3) := by decide +kernel
theorem dX5_isBeside_23 : decode cX5_isBeside 23 = .ok (.iload 5, 2) := by decide +kernel
theorem dX5_isBeside_25 : decode cX5_isBeside 25 = .ok (.bipush (-6), 2) := by decide +kernel
theorem dX5_isBeside_27 : decode cX5_isBeside 27 = .ok (.if_icmp .eq 18, 3) := by decide +kernel
theorem dX5_isBeside_30 : decode cX5_isBeside 30 = .ok (.aload_n 0, 1) := by decide +kernel
theorem dX5_isBeside_31 : decode cX5_isBeside 31 = .ok (.getfield 25, 3) := by decide +kernel
theorem dX5_isBeside_34 : decode cX5_isBeside 34 = .ok (.iload 5, 2) := by decide +kernel
theorem dX5_isBeside_36 : decode cX5_isBeside 36 = .ok (.iaload, 1) := by decide +kernel
theorem dX5_isBeside_37 : decode cX5_isBeside 37 = .ok (.iload_n 2, 1) := by decide +kernel
theorem dX5_isBeside_38 : decode cX5_isBeside 38 = .ok (.if_icmp .ne 7, 3) := by decide +kernel
theorem dX5_isBeside_41 : decode cX5_isBeside 41 = .ok (.iconst 1, 1) := by decide +kernel
theorem dX5_isBeside_42 : decode cX5_isBeside 42 = .ok (.goto 4, 3) := by decide +kernel
theorem dX5_isBeside_45 : decode cX5_isBeside 45 = .ok (.iconst 0, 1) := by decide +kernel
theorem dX5_isBeside_46 : decode cX5_isBeside 46 = .ok (.istore_n 3, 1) := by decide +kernel
theorem dX5_isBeside_47 : decode cX5_isBeside 47 = .ok (.iinc 4 1, 3) := by decide +kernel
theorem dX5_isBeside_50 : decode cX5_isBeside 50 = .ok (.goto (-45), 3) := by decide +kernel
theorem dX5_isBeside_53 : decode cX5_isBeside 53 = .ok (.iload_n 3, 1) := by decide +kernel
theorem dX5_isBeside_54 : decode cX5_isBeside 54 = .ok (.ireturn, 1) := by decide +kernel
set_option maxRecDepth 20000 in
theorem ggX5_kindOf_X5_isBeside : GoodIn wsX5_kindOf wsX5_isBeside := goodIn_r _ [7, 2, 8, 9, 6, 10, 11, 12, 13, 14, 15, 16, 17, 18, 19, 20, 21, 22, 23, 24, 25, 26, 27, 28, 29, 30, 31, 32] (by decide +kernel) (by decide +kernel)
set_option maxRecDepth 20000 in
theorem gX5_kindOf_X5_isBeside : GoodIn wsX5_kindOf (wsV RX5 79 RX5 yX5_isBeside wsX5_isBeside) := goodIn_app (goodIn_of _ (by decide +kernel)) ggX5_kindOf_X5_isBeside
theorem dX5_kindOf_0 : decode cX5_kindOf 0 = .ok (.aload_n 0, 1) := by decide +kernel
theorem dX5_kindOf_1 : decode cX5_kindOf 1 = .ok (.getfield 7, 3) := by decide +kernel
theorem dX5_kindOf_4 : decode cX5_kindOf 4 = .ok (.bipush 103, 2) := by decide +kernel
theorem dX5_kindOf_6 : decode cX5_kindOf 6 = .ok (.iload_n 1, 1) := by decide +kernel
theorem dX5_kindOf_7 : decode cX5_kindOf 7 = .ok (.iadd, 1) := by decide +kernel
theorem dX5_kindOf_8 : decode cX5_kindOf 8 = .ok (.iaload, 1) := by decide +kernel
theorem dX5_kindOf_9 : decode cX5_kindOf 9 = .ok (.iconst 1, 1) := by decide +kernel
theorem dX5_kindOf_10 : decode cX5_kindOf 10 = .ok (.if_icmp .ne 7, 3) := by decide +kernel
theorem dX5_kindOf_13 : decode cX5_kindOf 13 = .ok (.iconst 4, 1) := by decide +kernel
theorem dX5_kindOf_14 : decode cX5_kindOf 14 = .ok (.goto 55, 3) := by decide +kernel
theorem dX5_kindOf_17 : decode cX5_kindOf 17 = .ok (.aload_n 0, 1) := by decide +kernel
theorem dX5_kindOf_18 : decode cX5_kindOf 18 = .ok (.getfield 25, 3) := by decide +kernel
theorem dX5_kindOf_21 : decode cX5_kindOf 21 = .ok (.iload_n 1, 1) := by decide +kernel
theorem dX5_kindOf_22 : decode cX5_kindOf 22 = .ok (.iaload, 1) := by decide +kernel
theorem dX5_kindOf_23 : decode cX5_kindOf 23 = .ok (.ifCond .ne 7, 3) := by decide +kernel
theorem dX5_kindOf_26 : decode cX5_kindOf 26 = .ok (.iconst 0, 1) := by decide +kernel
theorem dX5_kindOf_27 : decode cX5_kindOf 27 = .ok (.goto 42, 3) := by decide +kernel
theorem dX5_kindOf_30 : decode cX5_kindOf 30 = .ok (.aload_n 0, 1) := by decide +kernel
theorem dX5_kindOf_31 : decode cX5_kindOf 31 = .ok (.getfield 25, 3) := by decide +kernel
theorem dX5_kindOf_34 : decode cX5_kindOf 34 = .ok (.iload_n 1, 1) := by decide +kernel
theorem dX5_kindOf_35 : decode cX5_kindOf 35 = .ok (.iaload, 1) := by decide +kernel
theorem dX5_kindOf_36 : decode cX5_kindOf 36 = .ok (.bipush 16, 2) := by decide +kernel
theorem dX5_kindOf_38 : decode cX5_kindOf 38 = .ok (.if_icmp .ne 7, 3) := by decide +kernel
theorem dX5_kindOf_41 : decode cX5_kindOf 41 = .ok (.iconst 3, 1) := by decide +kernel
theorem dX5_kindOf_42 : decode cX5_kindOf 42 = .ok (.goto 27, 3) := by decide +kernel
theorem dX5_kindOf_45 : decode cX5_kindOf 45 = .ok (.aload_n 0, 1) := by decide +kernel
theorem dX5_kindOf_46 : decode cX5_kindOf 46 = .ok (.iload_n 1, 1) := by decide +kernel
theorem dX5_kindOf_47 : decode cX5_kindOf 47 = .ok (.bipush 16, 2) := by decide +kernel
theorem dX5_kindOf_49 : decode cX5_kindOf 49 = .ok (.invokevirtual 79, 3) := by decide +kernel
theorem dX5_kindOf_52 : decode cX5_kindOf 52 = .ok (.ifCond .eq 16, 3) := by decide +kernel
theorem dX5_kindOf_55 : decode cX5_kindOf 55 = .ok (.aload_n 0, 1) := by decide +kernel
theorem dX5_kindOf_56 : decode cX5_kindOf 56 = .ok (.iload_n 1, 1) := by decide +kernel
theorem dX5_kindOf_57 : decode cX5_kindOf 57 = .ok (.iconst 0, 1) := by decide +kernel
theorem dX5_kindOf_58 : decode cX5_kindOf 58 = .ok (.invokevirtual 79, 3) := by decide +kernel
theorem dX5_kindOf_61 : decode cX5_kindOf 61 = .ok (.ifCond .eq 7, 3) := by decide +kernel
theorem dX5_kindOf_64 : decode cX5_kindOf 64 = .ok (.iconst 2, 1) := by decide +kernel
theorem dX5_kindOf_65 : decode cX5_kindOf 65 = .ok (.goto 4, 3) := by decide +kernel
theorem dX5_kindOf_68 : decode cX5_kindOf 68 = .ok (.iconst 1, 1) := by decide +kernel
theorem dX5_kindOf_69 : decode cX5_kindOf 69 = .ok (.ireturn, 1) := by decide +kernel
theorem dX5_shareOf_0 : decode cX5_shareOf 0 = .ok (.iload_n 1, 1) := by decide +kernel
theorem dX5_shareOf_1 : decode cX5_shareOf 1 = .ok (.ifCond .ne 7, 3) := by decide +kernel
theorem dX5_shareOf_4 : decode cX5_shareOf 4 = .ok (.iconst 0, 1) := by decide +kernel
theorem dX5_shareOf_5 : decode cX5_shareOf 5 = .ok (.goto 37, 3) := by decide +kernel
theorem dX5_shareOf_8 : decode cX5_shareOf 8 = .ok (.iload_n 1, 1) := by decide +kernel
theorem dX5_shareOf_9 : decode cX5_shareOf 9 = .ok (.iconst 2, 1) := by decide +kernel
theorem dX5_shareOf_10 : decode cX5_shareOf 10 = .ok (.if_icmp .ne 12, 3) := by decide +kernel
theorem dX5_shareOf_13 : decode cX5_shareOf 13 = .ok (.aload_n 0, 1) := by decide +kernel
theorem dX5_shareOf_14 : decode cX5_shareOf 14 = .ok (.getfield 7, 3) := by decide +kernel
theorem dX5_shareOf_17 : decode cX5_shareOf 17 = .ok (.iconst 3, 1) := by decide +kernel
theorem dX5_shareOf_18 : decode cX5_shareOf 18 = .ok (.iaload, 1) := by decide +kernel
theorem dX5_shareOf_19 : decode cX5_shareOf 19 = .ok (.goto 23, 3) := by decide +kernel
theorem dX5_shareOf_22 : decode cX5_shareOf 22 = .ok (.iload_n 1, 1) := by decide +kernel
theorem dX5_shareOf_23 : decode cX5_shareOf 23 = .ok (.iconst 4, 1) := by decide +kernel
theorem dX5_shareOf_24 : decode cX5_shareOf 24 = .ok (.if_icmp .ne 12, 3) := by decide +kernel
theorem dX5_shareOf_27 : decode cX5_shareOf 27 = .ok (.aload_n 0, 1) := by decide +kernel
theorem dX5_shareOf_28 : decode cX5_shareOf 28 = .ok (.getfield 7, 3) := by decide +kernel
theorem dX5_shareOf_31 : decode cX5_shareOf 31 = .ok (.iconst 4, 1) := by decide +kernel
theorem dX5_shareOf_32 : decode cX5_shareOf 32 = .ok (.iaload, 1) := by decide +kernel
theorem dX5_shareOf_33 : decode cX5_shareOf 33 = .ok (.goto 9, 3) := by decide +kernel
theorem dX5_shareOf_36 : decode cX5_shareOf 36 = .ok (.aload_n 0, 1) := by decide +kernel
theorem dX5_shareOf_37 : decode cX5_shareOf 37 = .ok (.getfield 7, 3) := by decide +kernel
theorem dX5_shareOf_40 : decode cX5_shareOf 40 = .ok (.iconst 2, 1) := by decide +kernel
theorem dX5_shareOf_41 : decode cX5_shareOf 41 = .ok (.iaload, 1) := by decide +kernel
theorem dX5_shareOf_42 : decode cX5_shareOf 42 = .ok (.ireturn, 1) := by decide +kernel
theorem dX5_without_0 : decode cX5_without 0 = .ok (.iload_n 0, 1) := by decide +kernel
theorem dX5_without_1 : decode cX5_without 1 = .ok (.iload_n 2, 1) := by decide +kernel
theorem dX5_without_2 : decode cX5_without 2 = .ok (.bipush 8, 2) := by decide +kernel
theorem dX5_without_4 : decode cX5_without 4 = .ok (.iconst 4, 1) := by decide +kernel
theorem dX5_without_5 : decode cX5_without 5 = .ok (.iload_n 1, 1) := by decide +kernel
theorem dX5_without_6 : decode cX5_without 6 = .ok (.imul, 1) := by decide +kernel
theorem dX5_without_7 : decode cX5_without 7 = .ok (.isub, 1) := by decide +kernel
theorem dX5_without_8 : decode cX5_without 8 = .ok (.ishl, 1) := by decide +kernel
theorem dX5_without_9 : decode cX5_without 9 = .ok (.isub, 1) := by decide +kernel
theorem dX5_without_10 : decode cX5_without 10 = .ok (.ireturn, 1) := by decide +kernel
set_option maxRecDepth 20000 in
theorem ggX5_composes_X5_partOf : GoodIn wsX5_composes wsX5_partOf := goodIn_r _ [6] (by decide +kernel) (by decide +kernel)
set_option maxRecDepth 20000 in
theorem gX5_composes_X5_partOf : GoodIn wsX5_composes (va_wsS RX5 53 yX5_partOf wsX5_partOf) := goodIn_app (goodIn_of _ (by decide +kernel)) ggX5_composes_X5_partOf
theorem dX5_composes_0 : decode cX5_composes 0 = .ok (.iconst 0, 1) := by decide +kernel
theorem dX5_composes_1 : decode cX5_composes 1 = .ok (.istore_n 3, 1) := by decide +kernel
theorem dX5_composes_2 : decode cX5_composes 2 = .ok (.iconst 0, 1) := by decide +kernel
theorem dX5_composes_3 : decode cX5_composes 3 = .ok (.istore 4, 2) := by decide +kernel
theorem dX5_composes_5 : decode cX5_composes 5 = .ok (.iload 4, 2) := by decide +kernel
theorem dX5_composes_7 : decode cX5_composes 7 = .ok (.iconst 3, 1) := by decide +kernel
theorem dX5_composes_8 : decode cX5_composes 8 = .ok (.if_icmp .ge 60, 3) := by decide +kernel
theorem dX5_composes_11 : decode cX5_composes 11 = .ok (.iload_n 2, 1) := by decide +kernel
theorem dX5_composes_12 : decode cX5_composes 12 = .ok (.iload 4, 2) := by decide +kernel
theorem dX5_composes_14 : decode cX5_composes 14 = .ok (.invokestatic 53, 3) := by decide +kernel
theorem dX5_composes_17 : decode cX5_composes 17 = .ok (.aload_n 0, 1) := by decide +kernel
theorem dX5_composes_18 : decode cX5_composes 18 = .ok (.getfield 25, 3) := by decide +kernel
theorem dX5_composes_21 : decode cX5_composes 21 = .ok (.iload_n 1, 1) := by decide +kernel
theorem dX5_composes_22 : decode cX5_composes 22 = .ok (.iaload, 1) := by decide +kernel
theorem dX5_composes_23 : decode cX5_composes 23 = .ok (.imul, 1) := by decide +kernel
theorem dX5_composes_24 : decode cX5_composes 24 = .ok (.aload_n 0, 1) := by decide +kernel
theorem dX5_composes_25 : decode cX5_composes 25 = .ok (.getfield 7, 3) := by decide +kernel
theorem dX5_composes_28 : decode cX5_composes 28 = .ok (.bipush 55, 2) := by decide +kernel
theorem dX5_composes_30 : decode cX5_composes 30 = .ok (.iload_n 1, 1) := by decide +kernel
theorem dX5_composes_31 : decode cX5_composes 31 = .ok (.iadd, 1) := by decide +kernel
theorem dX5_composes_32 : decode cX5_composes 32 = .ok (.iaload, 1) := by decide +kernel
theorem dX5_composes_33 : decode cX5_composes 33 = .ok (.iload 4, 2) := by decide +kernel
theorem dX5_composes_35 : decode cX5_composes 35 = .ok (.invokestatic 53, 3) := by decide +kernel
theorem dX5_composes_38 : decode cX5_composes 38 = .ok (.bipush 16, 2) := by decide +kernel
theorem dX5_composes_40 : decode cX5_composes 40 = .ok (.aload_n 0, 1) := by decide +kernel
theorem dX5_composes_41 : decode cX5_composes 41 = .ok (.getfield 25, 3) := by decide +kernel
theorem dX5_composes_44 : decode cX5_composes 44 = .ok (.iload_n 1, 1) := by decide +kernel
theorem dX5_composes_45 : decode cX5_composes 45 = .ok (.iaload, 1) := by decide +kernel
theorem dX5_composes_46 : decode cX5_composes 46 = .ok (.isub, 1) := by decide +kernel
theorem dX5_composes_47 : decode cX5_composes 47 = .ok (.imul, 1) := by decide +kernel
theorem dX5_composes_48 : decode cX5_composes 48 = .ok (.iadd, 1) := by decide +kernel
theorem dX5_composes_49 : decode cX5_composes 49 = .ok (.bipush 16, 2) := by decide +kernel
theorem dX5_composes_51 : decode cX5_composes 51 = .ok (.idiv, 1) := by decide +kernel
theorem dX5_composes_52 : decode cX5_composes 52 = .ok (.istore 5, 2) := by decide +kernel
theorem dX5_composes_54 : decode cX5_composes 54 = .ok (.bipush 16, 2) := by decide +kernel
theorem dX5_composes_56 : decode cX5_composes 56 = .ok (.iload_n 3, 1) := by decide +kernel
theorem dX5_composes_57 : decode cX5_composes 57 = .ok (.imul, 1) := by decide +kernel
theorem dX5_composes_58 : decode cX5_composes 58 = .ok (.iload 5, 2) := by decide +kernel
theorem dX5_composes_60 : decode cX5_composes 60 = .ok (.iadd, 1) := by decide +kernel
theorem dX5_composes_61 : decode cX5_composes 61 = .ok (.istore_n 3, 1) := by decide +kernel
theorem dX5_composes_62 : decode cX5_composes 62 = .ok (.iinc 4 1, 3) := by decide +kernel
theorem dX5_composes_65 : decode cX5_composes 65 = .ok (.goto (-60), 3) := by decide +kernel
theorem dX5_composes_68 : decode cX5_composes 68 = .ok (.iload_n 3, 1) := by decide +kernel
theorem dX5_composes_69 : decode cX5_composes 69 = .ok (.ireturn, 1) := by decide +kernel
set_option maxRecDepth 20000 in
theorem ggX5_works_X5_mainPart : GoodIn wsX5_works wsX5_mainPart := goodIn_r _ [12, 2, 13, 14, 11, 15, 66, 67, 68, 69, 70, 71, 72, 73, 74, 75, 76, 77, 78, 79, 80, 81, 82] (by decide +kernel) (by decide +kernel)
set_option maxRecDepth 20000 in
theorem gX5_works_X5_mainPart : GoodIn wsX5_works (wsV RX5 83 RX5 yX5_mainPart wsX5_mainPart) := goodIn_app (goodIn_of _ (by decide +kernel)) ggX5_works_X5_mainPart
set_option maxRecDepth 20000 in
theorem ggX5_works_X5_distanceOf : GoodIn wsX5_works wsX5_distanceOf := goodIn_r _ [18, 13, 14, 11, 15, 19, 20, 21] (by decide +kernel) (by decide +kernel)
set_option maxRecDepth 20000 in
theorem gX5_works_X5_distanceOf : GoodIn wsX5_works (va_wsS RX5 87 yX5_distanceOf wsX5_distanceOf) := goodIn_app (goodIn_of _ (by decide +kernel)) ggX5_works_X5_distanceOf
set_option maxRecDepth 20000 in
theorem ggX5_works_X5_rawOf : GoodIn wsX5_works wsX5_rawOf := goodIn_r _ [25, 2, 66, 67, 68, 69, 70, 71, 72, 73, 74, 75, 76, 77, 78, 79, 80, 81, 82] (by decide +kernel) (by decide +kernel)
set_option maxRecDepth 20000 in
theorem gX5_works_X5_rawOf : GoodIn wsX5_works (wsV RX5 90 RX5 yX5_rawOf wsX5_rawOf) := goodIn_app (goodIn_of _ (by decide +kernel)) ggX5_works_X5_rawOf
set_option maxRecDepth 20000 in
theorem ggX5_works_X5_opens : GoodIn wsX5_works wsX5_opens := goodIn_r _ [29, 4, 1, 30, 31, 11, 32, 33, 34, 35, 36, 37, 38, 39, 40, 66, 67, 68, 69, 70, 71, 72, 73, 74, 75, 76, 77, 78, 79, 80, 81, 82] (by decide +kernel) (by decide +kernel)
set_option maxRecDepth 20000 in
theorem gX5_works_X5_opens : GoodIn wsX5_works (wsV RX5 93 RX5 yX5_opens wsX5_opens) := goodIn_app (goodIn_of _ (by decide +kernel)) ggX5_works_X5_opens
set_option maxRecDepth 20000 in
theorem ggX5_works_X5_kindOf : GoodIn wsX5_works wsX5_kindOf := goodIn_r _ [44, 2, 3, 45, 46, 47, 11, 48, 33, 34, 35, 36, 37, 38, 39, 40, 66, 67, 68, 69, 70, 71, 72, 73, 74, 75, 76, 77, 78, 79, 80, 81, 82] (by decide +kernel) (by decide +kernel)
set_option maxRecDepth 20000 in
theorem gX5_works_X5_kindOf : GoodIn wsX5_works (wsV RX5 96 RX5 yX5_kindOf wsX5_kindOf) := goodIn_app (goodIn_of _ (by decide +kernel)) ggX5_works_X5_kindOf
set_option maxRecDepth 20000 in
theorem ggX5_works_X5_spillOf : GoodIn wsX5_works wsX5_spillOf := goodIn_r _ [51, 13, 14, 11, 15, 52, 53, 54] (by decide +kernel) (by decide +kernel)
set_option maxRecDepth 20000 in
theorem gX5_works_X5_spillOf : GoodIn wsX5_works (va_wsS RX5 99 yX5_spillOf wsX5_spillOf) := goodIn_app (goodIn_of _ (by decide +kernel)) ggX5_works_X5_spillOf
set_option maxRecDepth 20000 in
theorem ggX5_works_X5_shareOf : GoodIn wsX5_works wsX5_shareOf := goodIn_r _ [58, 2, 66, 67, 68, 69, 70, 71, 72, 73, 74, 75, 76, 77, 78, 79, 80, 81, 82] (by decide +kernel) (by decide +kernel)
set_option maxRecDepth 20000 in
theorem gX5_works_X5_shareOf : GoodIn wsX5_works (wsV RX5 102 RX5 yX5_shareOf wsX5_shareOf) := goodIn_app (goodIn_of _ (by decide +kernel)) ggX5_works_X5_shareOf
set_option maxRecDepth 20000 in
theorem ggX5_works_X5_without : GoodIn wsX5_works wsX5_without := goodIn_r _ [61] (by decide +kernel) (by decide +kernel)
set_option maxRecDepth 20000 in
theorem gX5_works_X5_without : GoodIn wsX5_works (va_wsS RX5 105 yX5_without wsX5_without) := goodIn_app (goodIn_of _ (by decide +kernel)) ggX5_works_X5_without
set_option maxRecDepth 20000 in
theorem ggX5_works_X5_composes : GoodIn wsX5_works wsX5_composes := goodIn_r _ [65, 3, 2, 13, 14, 11, 15, 66, 67, 68, 69, 70, 71, 72, 73, 74, 75, 76, 77, 78, 79, 80, 81, 82] (by decide +kernel) (by decide +kernel)
set_option maxRecDepth 20000 in
theorem gX5_works_X5_composes : GoodIn wsX5_works (wsV RX5 109 RX5 yX5_composes wsX5_composes) := goodIn_app (goodIn_of _ (by decide +kernel)) ggX5_works_X5_composes
theorem dX5_works_0 : decode cX5_works 0 = .ok (.aload_n 0, 1) := by decide +kernel
theorem dX5_works_1 : decode cX5_works 1 = .ok (.invokevirtual 83, 3) := by decide +kernel
theorem dX5_works_4 : decode cX5_works 4 = .ok (.istore_n 1, 1) := by decide +kernel
theorem dX5_works_5 : decode cX5_works 5 = .ok (.iconst 0, 1) := by decide +kernel
theorem dX5_works_6 : decode cX5_works 6 = .ok (.istore_n 2, 1) := by decide +kernel
theorem dX5_works_7 : decode cX5_works 7 = .ok (.iload_n 2, 1) := by decide +kernel
theorem dX5_works_8 : decode cX5_works 8 = .ok (.bipush 48, 2) := by decide +kernel
theorem dX5_works_10 : decode cX5_works 10 = .ok (.if_icmp .ge 38, 3) := by decide +kernel
theorem dX5_works_13 : decode cX5_works 13 = .ok (.aload_n 0, 1) := by decide +kernel
theorem dX5_works_14 : decode cX5_works 14 = .ok (.getfield 22, 3) := by decide +kernel
theorem dX5_works_17 : decode cX5_works 17 = .ok (.iload_n 2, 1) := by decide +kernel
theorem dX5_works_18 : decode cX5_works 18 = .ok (.aload_n 0, 1) := by decide +kernel
theorem dX5_works_19 : decode cX5_works 19 = .ok (.aload_n 0, 1) := by decide +kernel
theorem dX5_works_20 : decode cX5_works 20 = .ok (.getfield 7, 3) := by decide +kernel
theorem dX5_works_23 : decode cX5_works 23 = .ok (.bipush 7, 2) := by decide +kernel
theorem dX5_works_25 : decode cX5_works 25 = .ok (.iload_n 2, 1) := by decide +kernel
theorem dX5_works_26 : decode cX5_works 26 = .ok (.iadd, 1) := by decide +kernel
theorem dX5_works_27 : decode cX5_works 27 = .ok (.iaload, 1) := by decide +kernel
theorem dX5_works_28 : decode cX5_works 28 = .ok (.aload_n 0, 1) := by decide +kernel
theorem dX5_works_29 : decode cX5_works 29 = .ok (.getfield 7, 3) := by decide +kernel
theorem dX5_works_32 : decode cX5_works 32 = .ok (.bipush 6, 2) := by decide +kernel
theorem dX5_works_34 : decode cX5_works 34 = .ok (.iaload, 1) := by decide +kernel
theorem dX5_works_35 : decode cX5_works 35 = .ok (.invokestatic 87, 3) := by decide +kernel
theorem dX5_works_38 : decode cX5_works 38 = .ok (.invokevirtual 90, 3) := by decide +kernel
theorem dX5_works_41 : decode cX5_works 41 = .ok (.iastore, 1) := by decide +kernel
theorem dX5_works_42 : decode cX5_works 42 = .ok (.iinc 2 1, 3) := by decide +kernel
theorem dX5_works_45 : decode cX5_works 45 = .ok (.goto (-38), 3) := by decide +kernel
theorem dX5_works_48 : decode cX5_works 48 = .ok (.aload_n 0, 1) := by decide +kernel
theorem dX5_works_49 : decode cX5_works 49 = .ok (.invokevirtual 93, 3) := by decide +kernel
theorem dX5_works_52 : decode cX5_works 52 = .ok (.iconst 0, 1) := by decide +kernel
theorem dX5_works_53 : decode cX5_works 53 = .ok (.istore_n 2, 1) := by decide +kernel
theorem dX5_works_54 : decode cX5_works 54 = .ok (.iload_n 2, 1) := by decide +kernel
theorem dX5_works_55 : decode cX5_works 55 = .ok (.bipush 48, 2) := by decide +kernel
theorem dX5_works_57 : decode cX5_works 57 = .ok (.if_icmp .ge 45, 3) := by decide +kernel
theorem dX5_works_60 : decode cX5_works 60 = .ok (.aload_n 0, 1) := by decide +kernel
theorem dX5_works_61 : decode cX5_works 61 = .ok (.getfield 25, 3) := by decide +kernel
theorem dX5_works_64 : decode cX5_works 64 = .ok (.iload_n 2, 1) := by decide +kernel
theorem dX5_works_65 : decode cX5_works 65 = .ok (.aload_n 0, 1) := by decide +kernel
theorem dX5_works_66 : decode cX5_works 66 = .ok (.getfield 7, 3) := by decide +kernel
theorem dX5_works_69 : decode cX5_works 69 = .ok (.iconst 5, 1) := by decide +kernel
theorem dX5_works_70 : decode cX5_works 70 = .ok (.iaload, 1) := by decide +kernel
theorem dX5_works_71 : decode cX5_works 71 = .ok (.iconst 1, 1) := by decide +kernel
theorem dX5_works_72 : decode cX5_works 72 = .ok (.if_icmp .ne 17, 3) := by decide +kernel
theorem dX5_works_75 : decode cX5_works 75 = .ok (.aload_n 0, 1) := by decide +kernel
theorem dX5_works_76 : decode cX5_works 76 = .ok (.getfield 37, 3) := by decide +kernel
theorem dX5_works_79 : decode cX5_works 79 = .ok (.iload_n 2, 1) := by decide +kernel
theorem dX5_works_80 : decode cX5_works 80 = .ok (.iaload, 1) := by decide +kernel
theorem dX5_works_81 : decode cX5_works 81 = .ok (.ifCond .ne 8, 3) := by decide +kernel
theorem dX5_works_84 : decode cX5_works 84 = .ok (.bipush 16, 2) := by decide +kernel
theorem dX5_works_86 : decode cX5_works 86 = .ok (.goto 9, 3) := by decide +kernel
theorem dX5_works_89 : decode cX5_works 89 = .ok (.aload_n 0, 1) := by decide +kernel
theorem dX5_works_90 : decode cX5_works 90 = .ok (.getfield 22, 3) := by decide +kernel
theorem dX5_works_93 : decode cX5_works 93 = .ok (.iload_n 2, 1) := by decide +kernel
theorem dX5_works_94 : decode cX5_works 94 = .ok (.iaload, 1) := by decide +kernel
theorem dX5_works_95 : decode cX5_works 95 = .ok (.iastore, 1) := by decide +kernel
theorem dX5_works_96 : decode cX5_works 96 = .ok (.iinc 2 1, 3) := by decide +kernel
theorem dX5_works_99 : decode cX5_works 99 = .ok (.goto (-45), 3) := by decide +kernel
theorem dX5_works_102 : decode cX5_works 102 = .ok (.iconst 0, 1) := by decide +kernel
theorem dX5_works_103 : decode cX5_works 103 = .ok (.istore_n 2, 1) := by decide +kernel
theorem dX5_works_104 : decode cX5_works 104 = .ok (.iload_n 2, 1) := by decide +kernel
theorem dX5_works_105 : decode cX5_works 105 = .ok (.bipush 48, 2) := by decide +kernel
theorem dX5_works_107 : decode cX5_works 107 = .ok (.if_icmp .ge 83, 3) := by decide +kernel
theorem dX5_works_110 : decode cX5_works 110 = .ok (.aload_n 0, 1) := by decide +kernel
theorem dX5_works_111 : decode cX5_works 111 = .ok (.getfield 28, 3) := by decide +kernel
theorem dX5_works_114 : decode cX5_works 114 = .ok (.iload_n 2, 1) := by decide +kernel
theorem dX5_works_115 : decode cX5_works 115 = .ok (.aload_n 0, 1) := by decide +kernel
theorem dX5_works_116 : decode cX5_works 116 = .ok (.iload_n 2, 1) := by decide +kernel
theorem dX5_works_117 : decode cX5_works 117 = .ok (.invokevirtual 96, 3) := by decide +kernel
theorem dX5_works_120 : decode cX5_works 120 = .ok (.iastore, 1) := by decide +kernel
theorem dX5_works_121 : decode cX5_works 121 = .ok (.aload_n 0, 1) := by decide +kernel
theorem dX5_works_122 : decode cX5_works 122 = .ok (.getfield 31, 3) := by decide +kernel
theorem dX5_works_125 : decode cX5_works 125 = .ok (.iload_n 2, 1) := by decide +kernel
theorem dX5_works_126 : decode cX5_works 126 = .ok (.aload_n 0, 1) := by decide +kernel
theorem dX5_works_127 : decode cX5_works 127 = .ok (.getfield 7, 3) := by decide +kernel
theorem dX5_works_130 : decode cX5_works 130 = .ok (.bipush 7, 2) := by decide +kernel
theorem dX5_works_132 : decode cX5_works 132 = .ok (.iload_n 2, 1) := by decide +kernel
theorem dX5_works_133 : decode cX5_works 133 = .ok (.iadd, 1) := by decide +kernel
theorem dX5_works_134 : decode cX5_works 134 = .ok (.iaload, 1) := by decide +kernel
theorem dX5_works_135 : decode cX5_works 135 = .ok (.iload_n 1, 1) := by decide +kernel
theorem dX5_works_136 : decode cX5_works 136 = .ok (.invokestatic 99, 3) := by decide +kernel
theorem dX5_works_139 : decode cX5_works 139 = .ok (.aload_n 0, 1) := by decide +kernel
theorem dX5_works_140 : decode cX5_works 140 = .ok (.aload_n 0, 1) := by decide +kernel
theorem dX5_works_141 : decode cX5_works 141 = .ok (.getfield 28, 3) := by decide +kernel
theorem dX5_works_144 : decode cX5_works 144 = .ok (.iload_n 2, 1) := by decide +kernel
theorem dX5_works_145 : decode cX5_works 145 = .ok (.iaload, 1) := by decide +kernel
theorem dX5_works_146 : decode cX5_works 146 = .ok (.invokevirtual 102, 3) := by decide +kernel
theorem dX5_works_149 : decode cX5_works 149 = .ok (.imul, 1) := by decide +kernel
theorem dX5_works_150 : decode cX5_works 150 = .ok (.bipush 16, 2) := by decide +kernel
theorem dX5_works_152 : decode cX5_works 152 = .ok (.idiv, 1) := by decide +kernel
theorem dX5_works_153 : decode cX5_works 153 = .ok (.iastore, 1) := by decide +kernel
theorem dX5_works_154 : decode cX5_works 154 = .ok (.aload_n 0, 1) := by decide +kernel
theorem dX5_works_155 : decode cX5_works 155 = .ok (.getfield 34, 3) := by decide +kernel
theorem dX5_works_158 : decode cX5_works 158 = .ok (.iload_n 2, 1) := by decide +kernel
theorem dX5_works_159 : decode cX5_works 159 = .ok (.aload_n 0, 1) := by decide +kernel
theorem dX5_works_160 : decode cX5_works 160 = .ok (.iload_n 2, 1) := by decide +kernel
theorem dX5_works_161 : decode cX5_works 161 = .ok (.aload_n 0, 1) := by decide +kernel
theorem dX5_works_162 : decode cX5_works 162 = .ok (.getfield 7, 3) := by decide +kernel
theorem dX5_works_165 : decode cX5_works 165 = .ok (.bipush 7, 2) := by decide +kernel
theorem dX5_works_167 : decode cX5_works 167 = .ok (.iload_n 2, 1) := by decide +kernel
theorem dX5_works_168 : decode cX5_works 168 = .ok (.iadd, 1) := by decide +kernel
theorem dX5_works_169 : decode cX5_works 169 = .ok (.iaload, 1) := by decide +kernel
theorem dX5_works_170 : decode cX5_works 170 = .ok (.iload_n 1, 1) := by decide +kernel
theorem dX5_works_171 : decode cX5_works 171 = .ok (.aload_n 0, 1) := by decide +kernel
theorem dX5_works_172 : decode cX5_works 172 = .ok (.getfield 31, 3) := by decide +kernel
theorem dX5_works_175 : decode cX5_works 175 = .ok (.iload_n 2, 1) := by decide +kernel
theorem dX5_works_176 : decode cX5_works 176 = .ok (.iaload, 1) := by decide +kernel
theorem dX5_works_177 : decode cX5_works 177 = .ok (.invokestatic 105, 3) := by decide +kernel
theorem dX5_works_180 : decode cX5_works 180 = .ok (.invokevirtual 109, 3) := by decide +kernel
theorem dX5_works_183 : decode cX5_works 183 = .ok (.iastore, 1) := by decide +kernel
theorem dX5_works_184 : decode cX5_works 184 = .ok (.iinc 2 1, 3) := by decide +kernel
theorem dX5_works_187 : decode cX5_works 187 = .ok (.goto (-83), 3) := by decide +kernel
theorem dX5_works_190 : decode cX5_works 190 = .ok (.return_, 1) := by decide +kernel
set_option maxRecDepth 20000 in
theorem ggX5_isSetting_X5_in : GoodIn wsX5_isSetting wsX5_in := goodIn_r _ [6] (by decide +kernel) (by decide +kernel)
set_option maxRecDepth 20000 in
theorem gX5_isSetting_X5_in : GoodIn wsX5_isSetting (va_wsS RX5 66 yX5_in wsX5_in) := goodIn_app (goodIn_of _ (by decide +kernel)) ggX5_isSetting_X5_in
theorem dX5_isSetting_0 : decode cX5_isSetting 0 = .ok (.iload_n 0, 1) := by decide +kernel
theorem dX5_isSetting_1 : decode cX5_isSetting 1 = .ok (.tableswitch 67 0 5 #[39, 39, 49, 49, 49, 59], 39) := by decide +kernel
theorem dX5_isSetting_40 : decode cX5_isSetting 40 = .ok (.iload_n 1, 1) := by decide +kernel
theorem dX5_isSetting_41 : decode cX5_isSetting 41 = .ok (.i2l, 1) := by decide +kernel
theorem dX5_isSetting_42 : decode cX5_isSetting 42 = .ok (.lconst 0, 1) := by decide +kernel
theorem dX5_isSetting_43 : decode cX5_isSetting 43 = .ok (.ldc2_w 112, 3) := by decide +kernel
theorem dX5_isSetting_46 : decode cX5_isSetting 46 = .ok (.invokestatic 66, 3) := by decide +kernel
theorem dX5_isSetting_49 : decode cX5_isSetting 49 = .ok (.ireturn, 1) := by decide +kernel
theorem dX5_isSetting_50 : decode cX5_isSetting 50 = .ok (.iload_n 1, 1) := by decide +kernel
theorem dX5_isSetting_51 : decode cX5_isSetting 51 = .ok (.i2l, 1) := by decide +kernel
theorem dX5_isSetting_52 : decode cX5_isSetting 52 = .ok (.lconst 0, 1) := by decide +kernel
theorem dX5_isSetting_53 : decode cX5_isSetting 53 = .ok (.ldc2_w 114, 3) := by decide +kernel
theorem dX5_isSetting_56 : decode cX5_isSetting 56 = .ok (.invokestatic 66, 3) := by decide +kernel
theorem dX5_isSetting_59 : decode cX5_isSetting 59 = .ok (.ireturn, 1) := by decide +kernel
theorem dX5_isSetting_60 : decode cX5_isSetting 60 = .ok (.iload_n 1, 1) := by decide +kernel
theorem dX5_isSetting_61 : decode cX5_isSetting 61 = .ok (.i2l, 1) := by decide +kernel
theorem dX5_isSetting_62 : decode cX5_isSetting 62 = .ok (.lconst 0, 1) := by decide +kernel
theorem dX5_isSetting_63 : decode cX5_isSetting 63 = .ok (.lconst 1, 1) := by decide +kernel
theorem dX5_isSetting_64 : decode cX5_isSetting 64 = .ok (.invokestatic 66, 3) := by decide +kernel
theorem dX5_isSetting_67 : decode cX5_isSetting 67 = .ok (.ireturn, 1) := by decide +kernel
theorem dX5_isSetting_68 : decode cX5_isSetting 68 = .ok (.iconst 0, 1) := by decide +kernel
theorem dX5_isSetting_69 : decode cX5_isSetting 69 = .ok (.ireturn, 1) := by decide +kernel
theorem dX5_isOrdered_0 : decode cX5_isOrdered 0 = .ok (.iload_n 1, 1) := by decide +kernel
theorem dX5_isOrdered_1 : decode cX5_isOrdered 1 = .ok (.ifCond .ne 7, 3) := by decide +kernel
theorem dX5_isOrdered_4 : decode cX5_isOrdered 4 = .ok (.iload_n 2, 1) := by decide +kernel
theorem dX5_isOrdered_5 : decode cX5_isOrdered 5 = .ok (.goto 9, 3) := by decide +kernel
theorem dX5_isOrdered_8 : decode cX5_isOrdered 8 = .ok (.aload_n 0, 1) := by decide +kernel
theorem dX5_isOrdered_9 : decode cX5_isOrdered 9 = .ok (.getfield 7, 3) := by decide +kernel
theorem dX5_isOrdered_12 : decode cX5_isOrdered 12 = .ok (.iconst 0, 1) := by decide +kernel
theorem dX5_isOrdered_13 : decode cX5_isOrdered 13 = .ok (.iaload, 1) := by decide +kernel
theorem dX5_isOrdered_14 : decode cX5_isOrdered 14 = .ok (.istore_n 3, 1) := by decide +kernel
theorem dX5_isOrdered_15 : decode cX5_isOrdered 15 = .ok (.iload_n 1, 1) := by decide +kernel
theorem dX5_isOrdered_16 : decode cX5_isOrdered 16 = .ok (.iconst 1, 1) := by decide +kernel
theorem dX5_isOrdered_17 : decode cX5_isOrdered 17 = .ok (.if_icmp .ne 7, 3) := by decide +kernel
theorem dX5_isOrdered_20 : decode cX5_isOrdered 20 = .ok (.iload_n 2, 1) := by decide +kernel
theorem dX5_isOrdered_21 : decode cX5_isOrdered 21 = .ok (.goto 9, 3) := by decide +kernel
theorem dX5_isOrdered_24 : decode cX5_isOrdered 24 = .ok (.aload_n 0, 1) := by decide +kernel
theorem dX5_isOrdered_25 : decode cX5_isOrdered 25 = .ok (.getfield 7, 3) := by decide +kernel
theorem dX5_isOrdered_28 : decode cX5_isOrdered 28 = .ok (.iconst 1, 1) := by decide +kernel
theorem dX5_isOrdered_29 : decode cX5_isOrdered 29 = .ok (.iaload, 1) := by decide +kernel
theorem dX5_isOrdered_30 : decode cX5_isOrdered 30 = .ok (.istore 4, 2) := by decide +kernel
theorem dX5_isOrdered_32 : decode cX5_isOrdered 32 = .ok (.iload_n 3, 1) := by decide +kernel
theorem dX5_isOrdered_33 : decode cX5_isOrdered 33 = .ok (.iload 4, 2) := by decide +kernel
theorem dX5_isOrdered_35 : decode cX5_isOrdered 35 = .ok (.if_icmp .ge 7, 3) := by decide +kernel
theorem dX5_isOrdered_38 : decode cX5_isOrdered 38 = .ok (.iconst 1, 1) := by decide +kernel
theorem dX5_isOrdered_39 : decode cX5_isOrdered 39 = .ok (.goto 4, 3) := by decide +kernel
theorem dX5_isOrdered_42 : decode cX5_isOrdered 42 = .ok (.iconst 0, 1) := by decide +kernel
theorem dX5_isOrdered_43 : decode cX5_isOrdered 43 = .ok (.ireturn, 1) := by decide +kernel
set_option maxRecDepth 20000 in
theorem ggX5_set_X5_isSetting : GoodIn wsX5_set wsX5_isSetting := goodIn_r _ [5, 6, 7, 8, 9, 4, 10] (by decide +kernel) (by decide +kernel)
set_option maxRecDepth 20000 in
theorem gX5_set_X5_isSetting : GoodIn wsX5_set (va_wsS RX5 116 yX5_isSetting wsX5_isSetting) := goodIn_app (goodIn_of _ (by decide +kernel)) ggX5_set_X5_isSetting
set_option maxRecDepth 20000 in
theorem ggX5_set_X5_isOrdered : GoodIn wsX5_set wsX5_isOrdered := goodIn_r _ [14, 1, 21, 22, 23, 24, 25, 26, 27, 28, 29, 30, 31, 32, 33, 34, 35, 36, 37] (by decide +kernel) (by decide +kernel)
set_option maxRecDepth 20000 in
theorem gX5_set_X5_isOrdered : GoodIn wsX5_set (wsV RX5 119 RX5 yX5_isOrdered wsX5_isOrdered) := goodIn_app (goodIn_of _ (by decide +kernel)) ggX5_set_X5_isOrdered
set_option maxRecDepth 20000 in
theorem ggX5_set_X5_changes : GoodIn wsX5_set wsX5_changes := goodIn_r _ [18, 19, 20, 1, 21, 22, 23, 24, 25, 26, 27, 28, 29, 30, 31, 32, 33, 34, 35, 36, 37] (by decide +kernel) (by decide +kernel)
set_option maxRecDepth 20000 in
theorem gX5_set_X5_changes : GoodIn wsX5_set (wsV RX5 122 RX5 yX5_changes wsX5_changes) := goodIn_app (goodIn_of _ (by decide +kernel)) ggX5_set_X5_changes
theorem dX5_set_0 : decode cX5_set 0 = .ok (.iload_n 1, 1) := by decide +kernel
theorem dX5_set_1 : decode cX5_set 1 = .ok (.iload_n 2, 1) := by decide +kernel
theorem dX5_set_2 : decode cX5_set 2 = .ok (.invokestatic 116, 3) := by decide +kernel
theorem dX5_set_5 : decode cX5_set 5 = .ok (.ifCond .ne 6, 3) := by decide +kernel
theorem dX5_set_8 : decode cX5_set 8 = .ok (.bipush (-2), 2) := by decide +kernel
theorem dX5_set_10 : decode cX5_set 10 = .ok (.ireturn, 1) := by decide +kernel
theorem dX5_set_11 : decode cX5_set 11 = .ok (.aload_n 0, 1) := by decide +kernel
theorem dX5_set_12 : decode cX5_set 12 = .ok (.iload_n 1, 1) := by decide +kernel
theorem dX5_set_13 : decode cX5_set 13 = .ok (.iload_n 2, 1) := by decide +kernel
theorem dX5_set_14 : decode cX5_set 14 = .ok (.invokevirtual 119, 3) := by decide +kernel
theorem dX5_set_17 : decode cX5_set 17 = .ok (.ifCond .ne 6, 3) := by decide +kernel
theorem dX5_set_20 : decode cX5_set 20 = .ok (.bipush (-5), 2) := by decide +kernel
theorem dX5_set_22 : decode cX5_set 22 = .ok (.ireturn, 1) := by decide +kernel
theorem dX5_set_23 : decode cX5_set 23 = .ok (.aload_n 0, 1) := by decide +kernel
theorem dX5_set_24 : decode cX5_set 24 = .ok (.invokevirtual 122, 3) := by decide +kernel
theorem dX5_set_27 : decode cX5_set 27 = .ok (.aload_n 0, 1) := by decide +kernel
theorem dX5_set_28 : decode cX5_set 28 = .ok (.getfield 7, 3) := by decide +kernel
theorem dX5_set_31 : decode cX5_set 31 = .ok (.iload_n 1, 1) := by decide +kernel
theorem dX5_set_32 : decode cX5_set 32 = .ok (.iaload, 1) := by decide +kernel
theorem dX5_set_33 : decode cX5_set 33 = .ok (.istore_n 3, 1) := by decide +kernel
theorem dX5_set_34 : decode cX5_set 34 = .ok (.aload_n 0, 1) := by decide +kernel
theorem dX5_set_35 : decode cX5_set 35 = .ok (.getfield 7, 3) := by decide +kernel
theorem dX5_set_38 : decode cX5_set 38 = .ok (.iload_n 1, 1) := by decide +kernel
theorem dX5_set_39 : decode cX5_set 39 = .ok (.iload_n 2, 1) := by decide +kernel
theorem dX5_set_40 : decode cX5_set 40 = .ok (.iastore, 1) := by decide +kernel
theorem dX5_set_41 : decode cX5_set 41 = .ok (.iload_n 3, 1) := by decide +kernel
theorem dX5_set_42 : decode cX5_set 42 = .ok (.ireturn, 1) := by decide +kernel
set_option maxRecDepth 20000 in
theorem ggX5_isColour_X5_in : GoodIn wsX5_isColour wsX5_in := goodIn_r _ [5] (by decide +kernel) (by decide +kernel)
set_option maxRecDepth 20000 in
theorem gX5_isColour_X5_in : GoodIn wsX5_isColour (va_wsS RX5 66 yX5_in wsX5_in) := goodIn_app (goodIn_of _ (by decide +kernel)) ggX5_isColour_X5_in
theorem dX5_isColour_0 : decode cX5_isColour 0 = .ok (.iload_n 0, 1) := by decide +kernel
theorem dX5_isColour_1 : decode cX5_isColour 1 = .ok (.i2l, 1) := by decide +kernel
theorem dX5_isColour_2 : decode cX5_isColour 2 = .ok (.lconst 0, 1) := by decide +kernel
theorem dX5_isColour_3 : decode cX5_isColour 3 = .ok (.ldc2_w 125, 3) := by decide +kernel
theorem dX5_isColour_6 : decode cX5_isColour 6 = .ok (.invokestatic 66, 3) := by decide +kernel
theorem dX5_isColour_9 : decode cX5_isColour 9 = .ok (.ireturn, 1) := by decide +kernel
set_option maxRecDepth 20000 in
theorem ggX5_isPixel_X5_in : GoodIn wsX5_isPixel wsX5_in := goodIn_r _ [5] (by decide +kernel) (by decide +kernel)
set_option maxRecDepth 20000 in
theorem gX5_isPixel_X5_in : GoodIn wsX5_isPixel (va_wsS RX5 66 yX5_in wsX5_in) := goodIn_app (goodIn_of _ (by decide +kernel)) ggX5_isPixel_X5_in
theorem dX5_isPixel_0 : decode cX5_isPixel 0 = .ok (.iload_n 0, 1) := by decide +kernel
theorem dX5_isPixel_1 : decode cX5_isPixel 1 = .ok (.i2l, 1) := by decide +kernel
theorem dX5_isPixel_2 : decode cX5_isPixel 2 = .ok (.lconst 0, 1) := by decide +kernel
theorem dX5_isPixel_3 : decode cX5_isPixel 3 = .ok (.ldc2_w 127, 3) := by decide +kernel
theorem dX5_isPixel_6 : decode cX5_isPixel 6 = .ok (.invokestatic 66, 3) := by decide +kernel
theorem dX5_isPixel_9 : decode cX5_isPixel 9 = .ok (.ireturn, 1) := by decide +kernel
set_option maxRecDepth 20000 in
theorem ggX5_screen_X5_isColour : GoodIn wsX5_screen wsX5_isColour := goodIn_r _ [5, 6, 7, 8, 4, 9] (by decide +kernel) (by decide +kernel)
set_option maxRecDepth 20000 in
theorem gX5_screen_X5_isColour : GoodIn wsX5_screen (va_wsS RX5 129 yX5_isColour wsX5_isColour) := goodIn_app (goodIn_of _ (by decide +kernel)) ggX5_screen_X5_isColour
set_option maxRecDepth 20000 in
theorem ggX5_screen_X5_changes : GoodIn wsX5_screen wsX5_changes := goodIn_r _ [13, 14, 15, 1, 16, 17, 18, 19, 20, 21, 22, 23, 24, 25, 26, 27, 28, 29, 30, 31, 32] (by decide +kernel) (by decide +kernel)
set_option maxRecDepth 20000 in
theorem gX5_screen_X5_changes : GoodIn wsX5_screen (wsV RX5 122 RX5 yX5_changes wsX5_changes) := goodIn_app (goodIn_of _ (by decide +kernel)) ggX5_screen_X5_changes
theorem dX5_screen_0 : decode cX5_screen 0 = .ok (.iload_n 1, 1) := by decide +kernel
theorem dX5_screen_1 : decode cX5_screen 1 = .ok (.invokestatic 129, 3) := by decide +kernel
theorem dX5_screen_4 : decode cX5_screen 4 = .ok (.ifCond .ne 6, 3) := by decide +kernel
theorem dX5_screen_7 : decode cX5_screen 7 = .ok (.bipush (-2), 2) := by decide +kernel
theorem dX5_screen_9 : decode cX5_screen 9 = .ok (.ireturn, 1) := by decide +kernel
theorem dX5_screen_10 : decode cX5_screen 10 = .ok (.aload_n 0, 1) := by decide +kernel
theorem dX5_screen_11 : decode cX5_screen 11 = .ok (.invokevirtual 122, 3) := by decide +kernel
theorem dX5_screen_14 : decode cX5_screen 14 = .ok (.aload_n 0, 1) := by decide +kernel
theorem dX5_screen_15 : decode cX5_screen 15 = .ok (.getfield 7, 3) := by decide +kernel
theorem dX5_screen_18 : decode cX5_screen 18 = .ok (.bipush 6, 2) := by decide +kernel
theorem dX5_screen_20 : decode cX5_screen 20 = .ok (.iaload, 1) := by decide +kernel
theorem dX5_screen_21 : decode cX5_screen 21 = .ok (.istore_n 2, 1) := by decide +kernel
theorem dX5_screen_22 : decode cX5_screen 22 = .ok (.aload_n 0, 1) := by decide +kernel
theorem dX5_screen_23 : decode cX5_screen 23 = .ok (.getfield 7, 3) := by decide +kernel
theorem dX5_screen_26 : decode cX5_screen 26 = .ok (.bipush 6, 2) := by decide +kernel
theorem dX5_screen_28 : decode cX5_screen 28 = .ok (.iload_n 1, 1) := by decide +kernel
theorem dX5_screen_29 : decode cX5_screen 29 = .ok (.iastore, 1) := by decide +kernel
theorem dX5_screen_30 : decode cX5_screen 30 = .ok (.iload_n 2, 1) := by decide +kernel
theorem dX5_screen_31 : decode cX5_screen 31 = .ok (.ireturn, 1) := by decide +kernel
theorem dX5_picture_0 : decode cX5_picture 0 = .ok (.iload_n 0, 1) := by decide +kernel
theorem dX5_picture_1 : decode cX5_picture 1 = .ok (.ifCond .eq 8, 3) := by decide +kernel
theorem dX5_picture_4 : decode cX5_picture 4 = .ok (.bipush 7, 2) := by decide +kernel
theorem dX5_picture_6 : decode cX5_picture 6 = .ok (.goto 5, 3) := by decide +kernel
theorem dX5_picture_9 : decode cX5_picture 9 = .ok (.bipush 55, 2) := by decide +kernel
theorem dX5_picture_11 : decode cX5_picture 11 = .ok (.ireturn, 1) := by decide +kernel
set_option maxRecDepth 20000 in
theorem ggX5_paint_X5_isPixel : GoodIn wsX5_paint wsX5_isPixel := goodIn_r _ [5, 6, 7, 8, 4, 9] (by decide +kernel) (by decide +kernel)
set_option maxRecDepth 20000 in
theorem gX5_paint_X5_isPixel : GoodIn wsX5_paint (va_wsS RX5 132 yX5_isPixel wsX5_isPixel) := goodIn_app (goodIn_of _ (by decide +kernel)) ggX5_paint_X5_isPixel
set_option maxRecDepth 20000 in
theorem ggX5_paint_X5_isColour : GoodIn wsX5_paint wsX5_isColour := goodIn_r _ [12, 13, 7, 8, 4, 9] (by decide +kernel) (by decide +kernel)
set_option maxRecDepth 20000 in
theorem gX5_paint_X5_isColour : GoodIn wsX5_paint (va_wsS RX5 129 yX5_isColour wsX5_isColour) := goodIn_app (goodIn_of _ (by decide +kernel)) ggX5_paint_X5_isColour
set_option maxRecDepth 20000 in
theorem ggX5_paint_X5_changes : GoodIn wsX5_paint wsX5_changes := goodIn_r _ [17, 18, 19, 1, 23, 24, 25, 26, 27, 28, 29, 30, 31, 32, 33, 34, 35, 36, 37, 38, 39] (by decide +kernel) (by decide +kernel)
set_option maxRecDepth 20000 in
theorem gX5_paint_X5_changes : GoodIn wsX5_paint (wsV RX5 122 RX5 yX5_changes wsX5_changes) := goodIn_app (goodIn_of _ (by decide +kernel)) ggX5_paint_X5_changes
set_option maxRecDepth 20000 in
theorem ggX5_paint_X5_picture : GoodIn wsX5_paint wsX5_picture := goodIn_r _ [22] (by decide +kernel) (by decide +kernel)
set_option maxRecDepth 20000 in
theorem gX5_paint_X5_picture : GoodIn wsX5_paint (va_wsS RX5 135 yX5_picture wsX5_picture) := goodIn_app (goodIn_of _ (by decide +kernel)) ggX5_paint_X5_picture
theorem dX5_paint_0 : decode cX5_paint 0 = .ok (.iload_n 2, 1) := by decide +kernel
theorem dX5_paint_1 : decode cX5_paint 1 = .ok (.invokestatic 132, 3) := by decide +kernel
theorem dX5_paint_4 : decode cX5_paint 4 = .ok (.ifCond .ne 5, 3) := by decide +kernel
theorem dX5_paint_7 : decode cX5_paint 7 = .ok (.iconst (-1), 1) := by decide +kernel
theorem dX5_paint_8 : decode cX5_paint 8 = .ok (.ireturn, 1) := by decide +kernel
theorem dX5_paint_9 : decode cX5_paint 9 = .ok (.iload_n 3, 1) := by decide +kernel
theorem dX5_paint_10 : decode cX5_paint 10 = .ok (.invokestatic 129, 3) := by decide +kernel
theorem dX5_paint_13 : decode cX5_paint 13 = .ok (.ifCond .ne 6, 3) := by decide +kernel
theorem dX5_paint_16 : decode cX5_paint 16 = .ok (.bipush (-2), 2) := by decide +kernel
theorem dX5_paint_18 : decode cX5_paint 18 = .ok (.ireturn, 1) := by decide +kernel
theorem dX5_paint_19 : decode cX5_paint 19 = .ok (.aload_n 0, 1) := by decide +kernel
theorem dX5_paint_20 : decode cX5_paint 20 = .ok (.invokevirtual 122, 3) := by decide +kernel
theorem dX5_paint_23 : decode cX5_paint 23 = .ok (.aload_n 0, 1) := by decide +kernel
theorem dX5_paint_24 : decode cX5_paint 24 = .ok (.getfield 7, 3) := by decide +kernel
theorem dX5_paint_27 : decode cX5_paint 27 = .ok (.iload_n 1, 1) := by decide +kernel
theorem dX5_paint_28 : decode cX5_paint 28 = .ok (.invokestatic 135, 3) := by decide +kernel
theorem dX5_paint_31 : decode cX5_paint 31 = .ok (.iload_n 2, 1) := by decide +kernel
theorem dX5_paint_32 : decode cX5_paint 32 = .ok (.iadd, 1) := by decide +kernel
theorem dX5_paint_33 : decode cX5_paint 33 = .ok (.iaload, 1) := by decide +kernel
theorem dX5_paint_34 : decode cX5_paint 34 = .ok (.istore 4, 2) := by decide +kernel
theorem dX5_paint_36 : decode cX5_paint 36 = .ok (.aload_n 0, 1) := by decide +kernel
theorem dX5_paint_37 : decode cX5_paint 37 = .ok (.getfield 7, 3) := by decide +kernel
theorem dX5_paint_40 : decode cX5_paint 40 = .ok (.iload_n 1, 1) := by decide +kernel
theorem dX5_paint_41 : decode cX5_paint 41 = .ok (.invokestatic 135, 3) := by decide +kernel
theorem dX5_paint_44 : decode cX5_paint 44 = .ok (.iload_n 2, 1) := by decide +kernel
theorem dX5_paint_45 : decode cX5_paint 45 = .ok (.iadd, 1) := by decide +kernel
theorem dX5_paint_46 : decode cX5_paint 46 = .ok (.iload_n 3, 1) := by decide +kernel
theorem dX5_paint_47 : decode cX5_paint 47 = .ok (.iastore, 1) := by decide +kernel
theorem dX5_paint_48 : decode cX5_paint 48 = .ok (.iload 4, 2) := by decide +kernel
theorem dX5_paint_50 : decode cX5_paint 50 = .ok (.ireturn, 1) := by decide +kernel
set_option maxRecDepth 20000 in
theorem ggX5_isBetween_X5_in : GoodIn wsX5_isBetween wsX5_in := goodIn_r _ [4] (by decide +kernel) (by decide +kernel)
set_option maxRecDepth 20000 in
theorem gX5_isBetween_X5_in : GoodIn wsX5_isBetween (va_wsS RX5 66 yX5_in wsX5_in) := goodIn_app (goodIn_of _ (by decide +kernel)) ggX5_isBetween_X5_in
theorem dX5_isBetween_0 : decode cX5_isBetween 0 = .ok (.iload_n 1, 1) := by decide +kernel
theorem dX5_isBetween_1 : decode cX5_isBetween 1 = .ok (.iload_n 2, 1) := by decide +kernel
theorem dX5_isBetween_2 : decode cX5_isBetween 2 = .ok (.if_icmp .gt 15, 3) := by decide +kernel
theorem dX5_isBetween_5 : decode cX5_isBetween 5 = .ok (.iload_n 0, 1) := by decide +kernel
theorem dX5_isBetween_6 : decode cX5_isBetween 6 = .ok (.i2l, 1) := by decide +kernel
theorem dX5_isBetween_7 : decode cX5_isBetween 7 = .ok (.iload_n 1, 1) := by decide +kernel
theorem dX5_isBetween_8 : decode cX5_isBetween 8 = .ok (.i2l, 1) := by decide +kernel
theorem dX5_isBetween_9 : decode cX5_isBetween 9 = .ok (.iload_n 2, 1) := by decide +kernel
theorem dX5_isBetween_10 : decode cX5_isBetween 10 = .ok (.i2l, 1) := by decide +kernel
theorem dX5_isBetween_11 : decode cX5_isBetween 11 = .ok (.invokestatic 66, 3) := by decide +kernel
theorem dX5_isBetween_14 : decode cX5_isBetween 14 = .ok (.goto 12, 3) := by decide +kernel
theorem dX5_isBetween_17 : decode cX5_isBetween 17 = .ok (.iload_n 0, 1) := by decide +kernel
theorem dX5_isBetween_18 : decode cX5_isBetween 18 = .ok (.i2l, 1) := by decide +kernel
theorem dX5_isBetween_19 : decode cX5_isBetween 19 = .ok (.iload_n 2, 1) := by decide +kernel
theorem dX5_isBetween_20 : decode cX5_isBetween 20 = .ok (.i2l, 1) := by decide +kernel
theorem dX5_isBetween_21 : decode cX5_isBetween 21 = .ok (.iload_n 1, 1) := by decide +kernel
theorem dX5_isBetween_22 : decode cX5_isBetween 22 = .ok (.i2l, 1) := by decide +kernel
theorem dX5_isBetween_23 : decode cX5_isBetween 23 = .ok (.invokestatic 66, 3) := by decide +kernel
theorem dX5_isBetween_26 : decode cX5_isBetween 26 = .ok (.ireturn, 1) := by decide +kernel
set_option maxRecDepth 20000 in
theorem ggX5_fill_X5_isPixel : GoodIn wsX5_fill wsX5_isPixel := goodIn_r _ [5, 6, 7, 8, 4, 9] (by decide +kernel) (by decide +kernel)
set_option maxRecDepth 20000 in
theorem gX5_fill_X5_isPixel : GoodIn wsX5_fill (va_wsS RX5 132 yX5_isPixel wsX5_isPixel) := goodIn_app (goodIn_of _ (by decide +kernel)) ggX5_fill_X5_isPixel
set_option maxRecDepth 20000 in
theorem ggX5_fill_X5_isColour : GoodIn wsX5_fill wsX5_isColour := goodIn_r _ [12, 13, 7, 8, 4, 9] (by decide +kernel) (by decide +kernel)
set_option maxRecDepth 20000 in
theorem gX5_fill_X5_isColour : GoodIn wsX5_fill (va_wsS RX5 129 yX5_isColour wsX5_isColour) := goodIn_app (goodIn_of _ (by decide +kernel)) ggX5_fill_X5_isColour
set_option maxRecDepth 20000 in
theorem ggX5_fill_X5_changes : GoodIn wsX5_fill wsX5_changes := goodIn_r _ [17, 18, 19, 1, 26, 27, 28, 29, 30, 31, 32, 33, 34, 35, 36, 37, 38, 39, 40, 41, 42] (by decide +kernel) (by decide +kernel)
set_option maxRecDepth 20000 in
theorem gX5_fill_X5_changes : GoodIn wsX5_fill (wsV RX5 122 RX5 yX5_changes wsX5_changes) := goodIn_app (goodIn_of _ (by decide +kernel)) ggX5_fill_X5_changes
set_option maxRecDepth 20000 in
theorem ggX5_fill_X5_isBetween : GoodIn wsX5_fill wsX5_isBetween := goodIn_r _ [22, 7, 8, 4, 9] (by decide +kernel) (by decide +kernel)
set_option maxRecDepth 20000 in
theorem gX5_fill_X5_isBetween : GoodIn wsX5_fill (va_wsS RX5 139 yX5_isBetween wsX5_isBetween) := goodIn_app (goodIn_of _ (by decide +kernel)) ggX5_fill_X5_isBetween
set_option maxRecDepth 20000 in
theorem ggX5_fill_X5_picture : GoodIn wsX5_fill wsX5_picture := goodIn_r _ [25] (by decide +kernel) (by decide +kernel)
set_option maxRecDepth 20000 in
theorem gX5_fill_X5_picture : GoodIn wsX5_fill (va_wsS RX5 135 yX5_picture wsX5_picture) := goodIn_app (goodIn_of _ (by decide +kernel)) ggX5_fill_X5_picture
theorem dX5_fill_0 : decode cX5_fill 0 = .ok (.iload_n 2, 1) := by decide +kernel
theorem dX5_fill_1 : decode cX5_fill 1 = .ok (.invokestatic 132, 3) := by decide +kernel
theorem dX5_fill_4 : decode cX5_fill 4 = .ok (.ifCond .eq 10, 3) := by decide +kernel
theorem dX5_fill_7 : decode cX5_fill 7 = .ok (.iload_n 3, 1) := by decide +kernel
theorem dX5_fill_8 : decode cX5_fill 8 = .ok (.invokestatic 132, 3) := by decide +kernel
theorem dX5_fill_11 : decode cX5_fill 11 = .ok (.ifCond .ne 5, 3) := by decide +kernel
theorem dX5_fill_14 : decode cX5_fill 14 = .ok (.iconst (-1), 1) := by decide +kernel
theorem dX5_fill_15 : decode cX5_fill 15 = .ok (.ireturn, 1) := by decide +kernel
theorem dX5_fill_16 : decode cX5_fill 16 = .ok (.iload 4, 2) := by decide +kernel
theorem dX5_fill_18 : decode cX5_fill 18 = .ok (.invokestatic 129, 3) := by decide +kernel
theorem dX5_fill_21 : decode cX5_fill 21 = .ok (.ifCond .ne 6, 3) := by decide +kernel
theorem dX5_fill_24 : decode cX5_fill 24 = .ok (.bipush (-2), 2) := by decide +kernel
theorem dX5_fill_26 : decode cX5_fill 26 = .ok (.ireturn, 1) := by decide +kernel
theorem dX5_fill_27 : decode cX5_fill 27 = .ok (.aload_n 0, 1) := by decide +kernel
theorem dX5_fill_28 : decode cX5_fill 28 = .ok (.invokevirtual 122, 3) := by decide +kernel
theorem dX5_fill_31 : decode cX5_fill 31 = .ok (.iconst 0, 1) := by decide +kernel
theorem dX5_fill_32 : decode cX5_fill 32 = .ok (.istore 5, 2) := by decide +kernel
theorem dX5_fill_34 : decode cX5_fill 34 = .ok (.iconst 0, 1) := by decide +kernel
theorem dX5_fill_35 : decode cX5_fill 35 = .ok (.istore 6, 2) := by decide +kernel
theorem dX5_fill_37 : decode cX5_fill 37 = .ok (.iload 6, 2) := by decide +kernel
theorem dX5_fill_39 : decode cX5_fill 39 = .ok (.bipush 48, 2) := by decide +kernel
theorem dX5_fill_41 : decode cX5_fill 41 = .ok (.if_icmp .ge 64, 3) := by decide +kernel
theorem dX5_fill_44 : decode cX5_fill 44 = .ok (.iload 6, 2) := by decide +kernel
theorem dX5_fill_46 : decode cX5_fill 46 = .ok (.bipush 8, 2) := by decide +kernel
theorem dX5_fill_48 : decode cX5_fill 48 = .ok (.irem, 1) := by decide +kernel
theorem dX5_fill_49 : decode cX5_fill 49 = .ok (.iload_n 2, 1) := by decide +kernel
theorem dX5_fill_50 : decode cX5_fill 50 = .ok (.bipush 8, 2) := by decide +kernel
theorem dX5_fill_52 : decode cX5_fill 52 = .ok (.irem, 1) := by decide +kernel
theorem dX5_fill_53 : decode cX5_fill 53 = .ok (.iload_n 3, 1) := by decide +kernel
theorem dX5_fill_54 : decode cX5_fill 54 = .ok (.bipush 8, 2) := by decide +kernel
theorem dX5_fill_56 : decode cX5_fill 56 = .ok (.irem, 1) := by decide +kernel
theorem dX5_fill_57 : decode cX5_fill 57 = .ok (.invokestatic 139, 3) := by decide +kernel
theorem dX5_fill_60 : decode cX5_fill 60 = .ok (.ifCond .eq 39, 3) := by decide +kernel
theorem dX5_fill_63 : decode cX5_fill 63 = .ok (.iload 6, 2) := by decide +kernel
theorem dX5_fill_65 : decode cX5_fill 65 = .ok (.bipush 8, 2) := by decide +kernel
theorem dX5_fill_67 : decode cX5_fill 67 = .ok (.idiv, 1) := by decide +kernel
theorem dX5_fill_68 : decode cX5_fill 68 = .ok (.iload_n 2, 1) := by decide +kernel
theorem dX5_fill_69 : decode cX5_fill 69 = .ok (.bipush 8, 2) := by decide +kernel
theorem dX5_fill_71 : decode cX5_fill 71 = .ok (.idiv, 1) := by decide +kernel
theorem dX5_fill_72 : decode cX5_fill 72 = .ok (.iload_n 3, 1) := by decide +kernel
theorem dX5_fill_73 : decode cX5_fill 73 = .ok (.bipush 8, 2) := by decide +kernel
theorem dX5_fill_75 : decode cX5_fill 75 = .ok (.idiv, 1) := by decide +kernel
theorem dX5_fill_76 : decode cX5_fill 76 = .ok (.invokestatic 139, 3) := by decide +kernel
theorem dX5_fill_79 : decode cX5_fill 79 = .ok (.ifCond .eq 20, 3) := by decide +kernel
theorem dX5_fill_82 : decode cX5_fill 82 = .ok (.aload_n 0, 1) := by decide +kernel
theorem dX5_fill_83 : decode cX5_fill 83 = .ok (.getfield 7, 3) := by decide +kernel
theorem dX5_fill_86 : decode cX5_fill 86 = .ok (.iload_n 1, 1) := by decide +kernel
theorem dX5_fill_87 : decode cX5_fill 87 = .ok (.invokestatic 135, 3) := by decide +kernel
theorem dX5_fill_90 : decode cX5_fill 90 = .ok (.iload 6, 2) := by decide +kernel
theorem dX5_fill_92 : decode cX5_fill 92 = .ok (.iadd, 1) := by decide +kernel
theorem dX5_fill_93 : decode cX5_fill 93 = .ok (.iload 4, 2) := by decide +kernel
theorem dX5_fill_95 : decode cX5_fill 95 = .ok (.iastore, 1) := by decide +kernel
theorem dX5_fill_96 : decode cX5_fill 96 = .ok (.iinc 5 1, 3) := by decide +kernel
theorem dX5_fill_99 : decode cX5_fill 99 = .ok (.iinc 6 1, 3) := by decide +kernel
theorem dX5_fill_102 : decode cX5_fill 102 = .ok (.goto (-65), 3) := by decide +kernel
theorem dX5_fill_105 : decode cX5_fill 105 = .ok (.iload 5, 2) := by decide +kernel
theorem dX5_fill_107 : decode cX5_fill 107 = .ok (.ireturn, 1) := by decide +kernel
theorem dX5_marked_0 : decode cX5_marked 0 = .ok (.iconst 0, 1) := by decide +kernel
theorem dX5_marked_1 : decode cX5_marked 1 = .ok (.istore_n 1, 1) := by decide +kernel
theorem dX5_marked_2 : decode cX5_marked 2 = .ok (.iconst 0, 1) := by decide +kernel
theorem dX5_marked_3 : decode cX5_marked 3 = .ok (.istore_n 2, 1) := by decide +kernel
theorem dX5_marked_4 : decode cX5_marked 4 = .ok (.iload_n 2, 1) := by decide +kernel
theorem dX5_marked_5 : decode cX5_marked 5 = .ok (.bipush 48, 2) := by decide +kernel
theorem dX5_marked_7 : decode cX5_marked 7 = .ok (.if_icmp .ge 21, 3) := by decide +kernel
theorem dX5_marked_10 : decode cX5_marked 10 = .ok (.iload_n 1, 1) := by decide +kernel
theorem dX5_marked_11 : decode cX5_marked 11 = .ok (.aload_n 0, 1) := by decide +kernel
theorem dX5_marked_12 : decode cX5_marked 12 = .ok (.getfield 7, 3) := by decide +kernel
theorem dX5_marked_15 : decode cX5_marked 15 = .ok (.bipush 103, 2) := by decide +kernel
theorem dX5_marked_17 : decode cX5_marked 17 = .ok (.iload_n 2, 1) := by decide +kernel
theorem dX5_marked_18 : decode cX5_marked 18 = .ok (.iadd, 1) := by decide +kernel
theorem dX5_marked_19 : decode cX5_marked 19 = .ok (.iaload, 1) := by decide +kernel
theorem dX5_marked_20 : decode cX5_marked 20 = .ok (.iadd, 1) := by decide +kernel
theorem dX5_marked_21 : decode cX5_marked 21 = .ok (.istore_n 1, 1) := by decide +kernel
theorem dX5_marked_22 : decode cX5_marked 22 = .ok (.iinc 2 1, 3) := by decide +kernel
theorem dX5_marked_25 : decode cX5_marked 25 = .ok (.goto (-21), 3) := by decide +kernel
theorem dX5_marked_28 : decode cX5_marked 28 = .ok (.iload_n 1, 1) := by decide +kernel
theorem dX5_marked_29 : decode cX5_marked 29 = .ok (.ireturn, 1) := by decide +kernel
set_option maxRecDepth 20000 in
theorem ggX5_mark_X5_isPixel : GoodIn wsX5_mark wsX5_isPixel := goodIn_r _ [5, 6, 7, 8, 4, 9] (by decide +kernel) (by decide +kernel)
set_option maxRecDepth 20000 in
theorem gX5_mark_X5_isPixel : GoodIn wsX5_mark (va_wsS RX5 132 yX5_isPixel wsX5_isPixel) := goodIn_app (goodIn_of _ (by decide +kernel)) ggX5_mark_X5_isPixel
set_option maxRecDepth 20000 in
theorem ggX5_mark_X5_changes : GoodIn wsX5_mark wsX5_changes := goodIn_r _ [13, 14, 15, 1, 20, 21, 22, 23, 24, 25, 26, 27, 28, 29, 30, 31, 32, 33, 34, 35, 36] (by decide +kernel) (by decide +kernel)
set_option maxRecDepth 20000 in
theorem gX5_mark_X5_changes : GoodIn wsX5_mark (wsV RX5 122 RX5 yX5_changes wsX5_changes) := goodIn_app (goodIn_of _ (by decide +kernel)) ggX5_mark_X5_changes
set_option maxRecDepth 20000 in
theorem ggX5_mark_X5_marked : GoodIn wsX5_mark wsX5_marked := goodIn_r _ [19, 1, 20, 21, 22, 23, 24, 25, 26, 27, 28, 29, 30, 31, 32, 33, 34, 35, 36] (by decide +kernel) (by decide +kernel)
set_option maxRecDepth 20000 in
theorem gX5_mark_X5_marked : GoodIn wsX5_mark (wsV RX5 143 RX5 yX5_marked wsX5_marked) := goodIn_app (goodIn_of _ (by decide +kernel)) ggX5_mark_X5_marked
theorem dX5_mark_0 : decode cX5_mark 0 = .ok (.iload_n 1, 1) := by decide +kernel
theorem dX5_mark_1 : decode cX5_mark 1 = .ok (.invokestatic 132, 3) := by decide +kernel
theorem dX5_mark_4 : decode cX5_mark 4 = .ok (.ifCond .ne 5, 3) := by decide +kernel
theorem dX5_mark_7 : decode cX5_mark 7 = .ok (.iconst (-1), 1) := by decide +kernel
theorem dX5_mark_8 : decode cX5_mark 8 = .ok (.ireturn, 1) := by decide +kernel
theorem dX5_mark_9 : decode cX5_mark 9 = .ok (.iload_n 2, 1) := by decide +kernel
theorem dX5_mark_10 : decode cX5_mark 10 = .ok (.ifCond .eq 7, 3) := by decide +kernel
theorem dX5_mark_13 : decode cX5_mark 13 = .ok (.iconst 1, 1) := by decide +kernel
theorem dX5_mark_14 : decode cX5_mark 14 = .ok (.goto 4, 3) := by decide +kernel
theorem dX5_mark_17 : decode cX5_mark 17 = .ok (.iconst 0, 1) := by decide +kernel
theorem dX5_mark_18 : decode cX5_mark 18 = .ok (.istore_n 3, 1) := by decide +kernel
theorem dX5_mark_19 : decode cX5_mark 19 = .ok (.aload_n 0, 1) := by decide +kernel
theorem dX5_mark_20 : decode cX5_mark 20 = .ok (.getfield 7, 3) := by decide +kernel
theorem dX5_mark_23 : decode cX5_mark 23 = .ok (.bipush 103, 2) := by decide +kernel
theorem dX5_mark_25 : decode cX5_mark 25 = .ok (.iload_n 1, 1) := by decide +kernel
theorem dX5_mark_26 : decode cX5_mark 26 = .ok (.iadd, 1) := by decide +kernel
theorem dX5_mark_27 : decode cX5_mark 27 = .ok (.iaload, 1) := by decide +kernel
theorem dX5_mark_28 : decode cX5_mark 28 = .ok (.iload_n 3, 1) := by decide +kernel
theorem dX5_mark_29 : decode cX5_mark 29 = .ok (.if_icmp .ne 6, 3) := by decide +kernel
theorem dX5_mark_32 : decode cX5_mark 32 = .ok (.bipush (-5), 2) := by decide +kernel
theorem dX5_mark_34 : decode cX5_mark 34 = .ok (.ireturn, 1) := by decide +kernel
theorem dX5_mark_35 : decode cX5_mark 35 = .ok (.aload_n 0, 1) := by decide +kernel
theorem dX5_mark_36 : decode cX5_mark 36 = .ok (.invokevirtual 122, 3) := by decide +kernel
theorem dX5_mark_39 : decode cX5_mark 39 = .ok (.aload_n 0, 1) := by decide +kernel
theorem dX5_mark_40 : decode cX5_mark 40 = .ok (.getfield 7, 3) := by decide +kernel
theorem dX5_mark_43 : decode cX5_mark 43 = .ok (.bipush 103, 2) := by decide +kernel
theorem dX5_mark_45 : decode cX5_mark 45 = .ok (.iload_n 1, 1) := by decide +kernel
theorem dX5_mark_46 : decode cX5_mark 46 = .ok (.iadd, 1) := by decide +kernel
theorem dX5_mark_47 : decode cX5_mark 47 = .ok (.iload_n 3, 1) := by decide +kernel
theorem dX5_mark_48 : decode cX5_mark 48 = .ok (.iastore, 1) := by decide +kernel
theorem dX5_mark_49 : decode cX5_mark 49 = .ok (.aload_n 0, 1) := by decide +kernel
theorem dX5_mark_50 : decode cX5_mark 50 = .ok (.invokevirtual 143, 3) := by decide +kernel
theorem dX5_mark_53 : decode cX5_mark 53 = .ok (.ireturn, 1) := by decide +kernel
set_option maxRecDepth 20000 in
theorem ggX5_keep_X5_changes : GoodIn wsX5_keep wsX5_changes := goodIn_r _ [7, 8, 9, 1, 76, 77, 78, 79, 80, 81, 82, 83, 84, 85, 86, 87, 88, 89, 90, 91, 92] (by decide +kernel) (by decide +kernel)
set_option maxRecDepth 20000 in
theorem gX5_keep_X5_changes : GoodIn wsX5_keep (wsV RX5 122 RX5 yX5_changes wsX5_changes) := goodIn_app (goodIn_of _ (by decide +kernel)) ggX5_keep_X5_changes
set_option maxRecDepth 20000 in
theorem ggX5_keep_X5_works : GoodIn wsX5_keep wsX5_works := goodIn_r _ [13, 14, 1, 15, 16, 17, 18, 2, 19, 20, 21, 6, 22, 23, 24, 25, 26, 27, 28, 29, 30, 31, 32, 33, 34, 35, 36, 37, 38, 39, 40, 41, 42, 43, 44, 45, 46, 47, 48, 49, 50, 51, 52, 53, 54, 55, 56, 57, 58, 59, 60, 61, 62, 63, 64, 65, 66, 67, 68, 69, 70, 71, 72, 73, 74, 75, 76, 77, 78, 79, 80, 81, 82, 83, 84, 85, 86, 87, 88, 89, 90, 91, 92] (by decide +kernel) (by decide +kernel)
set_option maxRecDepth 20000 in
theorem gX5_keep_X5_works : GoodIn wsX5_keep (wsV RX5 146 RX5 yX5_works wsX5_works) := goodIn_app (goodIn_of _ (by decide +kernel)) ggX5_keep_X5_works
theorem dX5_keep_0 : decode cX5_keep 0 = .ok (.aload_n 0, 1) := by decide +kernel
theorem dX5_keep_1 : decode cX5_keep 1 = .ok (.invokevirtual 122, 3) := by decide +kernel
theorem dX5_keep_4 : decode cX5_keep 4 = .ok (.aload_n 0, 1) := by decide +kernel
theorem dX5_keep_5 : decode cX5_keep 5 = .ok (.invokevirtual 146, 3) := by decide +kernel
theorem dX5_keep_8 : decode cX5_keep 8 = .ok (.iconst 0, 1) := by decide +kernel
theorem dX5_keep_9 : decode cX5_keep 9 = .ok (.istore_n 1, 1) := by decide +kernel
theorem dX5_keep_10 : decode cX5_keep 10 = .ok (.iconst 0, 1) := by decide +kernel
theorem dX5_keep_11 : decode cX5_keep 11 = .ok (.istore_n 2, 1) := by decide +kernel
theorem dX5_keep_12 : decode cX5_keep 12 = .ok (.iload_n 2, 1) := by decide +kernel
theorem dX5_keep_13 : decode cX5_keep 13 = .ok (.bipush 48, 2) := by decide +kernel
theorem dX5_keep_15 : decode cX5_keep 15 = .ok (.if_icmp .ge 60, 3) := by decide +kernel
theorem dX5_keep_18 : decode cX5_keep 18 = .ok (.iload_n 1, 1) := by decide +kernel
theorem dX5_keep_19 : decode cX5_keep 19 = .ok (.aload_n 0, 1) := by decide +kernel
theorem dX5_keep_20 : decode cX5_keep 20 = .ok (.getfield 7, 3) := by decide +kernel
theorem dX5_keep_23 : decode cX5_keep 23 = .ok (.bipush 7, 2) := by decide +kernel
theorem dX5_keep_25 : decode cX5_keep 25 = .ok (.iload_n 2, 1) := by decide +kernel
theorem dX5_keep_26 : decode cX5_keep 26 = .ok (.iadd, 1) := by decide +kernel
theorem dX5_keep_27 : decode cX5_keep 27 = .ok (.iaload, 1) := by decide +kernel
theorem dX5_keep_28 : decode cX5_keep 28 = .ok (.aload_n 0, 1) := by decide +kernel
theorem dX5_keep_29 : decode cX5_keep 29 = .ok (.getfield 34, 3) := by decide +kernel
theorem dX5_keep_32 : decode cX5_keep 32 = .ok (.iload_n 2, 1) := by decide +kernel
theorem dX5_keep_33 : decode cX5_keep 33 = .ok (.iaload, 1) := by decide +kernel
theorem dX5_keep_34 : decode cX5_keep 34 = .ok (.if_icmp .ne 7, 3) := by decide +kernel
theorem dX5_keep_37 : decode cX5_keep 37 = .ok (.iconst 0, 1) := by decide +kernel
theorem dX5_keep_38 : decode cX5_keep 38 = .ok (.goto 4, 3) := by decide +kernel
theorem dX5_keep_41 : decode cX5_keep 41 = .ok (.iconst 1, 1) := by decide +kernel
theorem dX5_keep_42 : decode cX5_keep 42 = .ok (.iadd, 1) := by decide +kernel
theorem dX5_keep_43 : decode cX5_keep 43 = .ok (.istore_n 1, 1) := by decide +kernel
theorem dX5_keep_44 : decode cX5_keep 44 = .ok (.aload_n 0, 1) := by decide +kernel
theorem dX5_keep_45 : decode cX5_keep 45 = .ok (.getfield 7, 3) := by decide +kernel
theorem dX5_keep_48 : decode cX5_keep 48 = .ok (.bipush 7, 2) := by decide +kernel
theorem dX5_keep_50 : decode cX5_keep 50 = .ok (.iload_n 2, 1) := by decide +kernel
theorem dX5_keep_51 : decode cX5_keep 51 = .ok (.iadd, 1) := by decide +kernel
theorem dX5_keep_52 : decode cX5_keep 52 = .ok (.aload_n 0, 1) := by decide +kernel
theorem dX5_keep_53 : decode cX5_keep 53 = .ok (.getfield 34, 3) := by decide +kernel
theorem dX5_keep_56 : decode cX5_keep 56 = .ok (.iload_n 2, 1) := by decide +kernel
theorem dX5_keep_57 : decode cX5_keep 57 = .ok (.iaload, 1) := by decide +kernel
theorem dX5_keep_58 : decode cX5_keep 58 = .ok (.iastore, 1) := by decide +kernel
theorem dX5_keep_59 : decode cX5_keep 59 = .ok (.aload_n 0, 1) := by decide +kernel
theorem dX5_keep_60 : decode cX5_keep 60 = .ok (.getfield 7, 3) := by decide +kernel
theorem dX5_keep_63 : decode cX5_keep 63 = .ok (.bipush 103, 2) := by decide +kernel
theorem dX5_keep_65 : decode cX5_keep 65 = .ok (.iload_n 2, 1) := by decide +kernel
theorem dX5_keep_66 : decode cX5_keep 66 = .ok (.iadd, 1) := by decide +kernel
theorem dX5_keep_67 : decode cX5_keep 67 = .ok (.iconst 0, 1) := by decide +kernel
theorem dX5_keep_68 : decode cX5_keep 68 = .ok (.iastore, 1) := by decide +kernel
theorem dX5_keep_69 : decode cX5_keep 69 = .ok (.iinc 2 1, 3) := by decide +kernel
theorem dX5_keep_72 : decode cX5_keep 72 = .ok (.goto (-60), 3) := by decide +kernel
theorem dX5_keep_75 : decode cX5_keep 75 = .ok (.iload_n 1, 1) := by decide +kernel
theorem dX5_keep_76 : decode cX5_keep 76 = .ok (.ireturn, 1) := by decide +kernel
set_option maxRecDepth 20000 in
theorem ggX5_pixel_X5_isPixel : GoodIn wsX5_pixel wsX5_isPixel := goodIn_r _ [10, 11, 12, 13, 9, 14] (by decide +kernel) (by decide +kernel)
set_option maxRecDepth 20000 in
theorem gX5_pixel_X5_isPixel : GoodIn wsX5_pixel (va_wsS RX5 132 yX5_isPixel wsX5_isPixel) := goodIn_app (goodIn_of _ (by decide +kernel)) ggX5_pixel_X5_isPixel
set_option maxRecDepth 20000 in
theorem ggX5_pixel_X5_works : GoodIn wsX5_pixel wsX5_works := goodIn_r _ [18, 2, 1, 3, 19, 4, 5, 6, 20, 21, 22, 9, 23, 24, 25, 26, 27, 28, 29, 30, 31, 32, 33, 34, 35, 36, 37, 38, 39, 40, 41, 42, 43, 44, 45, 46, 47, 48, 12, 13, 14, 49, 50, 51, 52, 53, 54, 55, 56, 57, 58, 59, 60, 61, 62, 63, 64, 65, 66, 67, 68, 69, 70, 71, 72, 73, 74, 75, 76, 77, 78, 79, 80, 81, 82, 83, 84, 85, 86, 87, 88, 89, 90] (by decide +kernel) (by decide +kernel)
set_option maxRecDepth 20000 in
theorem gX5_pixel_X5_works : GoodIn wsX5_pixel (wsV RX5 146 RX5 yX5_works wsX5_works) := goodIn_app (goodIn_of _ (by decide +kernel)) ggX5_pixel_X5_works
set_option maxRecDepth 20000 in
theorem ggX5_pixel_X5_distanceOf : GoodIn wsX5_pixel wsX5_distanceOf := goodIn_r _ [29, 24, 25, 9, 26, 30, 31, 32] (by decide +kernel) (by decide +kernel)
set_option maxRecDepth 20000 in
theorem gX5_pixel_X5_distanceOf : GoodIn wsX5_pixel (va_wsS RX5 87 yX5_distanceOf wsX5_distanceOf) := goodIn_app (goodIn_of _ (by decide +kernel)) ggX5_pixel_X5_distanceOf
set_option maxRecDepth 20000 in
theorem ggX5_pixel_X5_mainPart : GoodIn wsX5_pixel wsX5_mainPart := goodIn_r _ [23, 1, 24, 25, 9, 26, 74, 75, 76, 77, 78, 79, 80, 81, 82, 83, 84, 85, 86, 87, 88, 89, 90] (by decide +kernel) (by decide +kernel)
set_option maxRecDepth 20000 in
theorem gX5_pixel_X5_mainPart : GoodIn wsX5_pixel (wsV RX5 83 RX5 yX5_mainPart wsX5_mainPart) := goodIn_app (goodIn_of _ (by decide +kernel)) ggX5_pixel_X5_mainPart
set_option maxRecDepth 20000 in
theorem ggX5_pixel_X5_spillOf : GoodIn wsX5_pixel wsX5_spillOf := goodIn_r _ [59, 24, 25, 9, 26, 60, 61, 62] (by decide +kernel) (by decide +kernel)
set_option maxRecDepth 20000 in
theorem gX5_pixel_X5_spillOf : GoodIn wsX5_pixel (va_wsS RX5 99 yX5_spillOf wsX5_spillOf) := goodIn_app (goodIn_of _ (by decide +kernel)) ggX5_pixel_X5_spillOf
set_option maxRecDepth 20000 in
theorem ggX5_pixel_X5_without : GoodIn wsX5_pixel wsX5_without := goodIn_r _ [69] (by decide +kernel) (by decide +kernel)
set_option maxRecDepth 20000 in
theorem gX5_pixel_X5_without : GoodIn wsX5_pixel (va_wsS RX5 105 yX5_without wsX5_without) := goodIn_app (goodIn_of _ (by decide +kernel)) ggX5_pixel_X5_without
theorem dX5_pixel_0 : decode cX5_pixel 0 = .ok (.iload_n 1, 1) := by decide +kernel
theorem dX5_pixel_1 : decode cX5_pixel 1 = .ok (.invokestatic 132, 3) := by decide +kernel
theorem dX5_pixel_4 : decode cX5_pixel 4 = .ok (.ifCond .ne 5, 3) := by decide +kernel
theorem dX5_pixel_7 : decode cX5_pixel 7 = .ok (.iconst (-1), 1) := by decide +kernel
theorem dX5_pixel_8 : decode cX5_pixel 8 = .ok (.ireturn, 1) := by decide +kernel
theorem dX5_pixel_9 : decode cX5_pixel 9 = .ok (.aload_n 0, 1) := by decide +kernel
theorem dX5_pixel_10 : decode cX5_pixel 10 = .ok (.invokevirtual 146, 3) := by decide +kernel
theorem dX5_pixel_13 : decode cX5_pixel 13 = .ok (.aload_n 0, 1) := by decide +kernel
theorem dX5_pixel_14 : decode cX5_pixel 14 = .ok (.getfield 7, 3) := by decide +kernel
theorem dX5_pixel_17 : decode cX5_pixel 17 = .ok (.bipush 7, 2) := by decide +kernel
theorem dX5_pixel_19 : decode cX5_pixel 19 = .ok (.iload_n 1, 1) := by decide +kernel
theorem dX5_pixel_20 : decode cX5_pixel 20 = .ok (.iadd, 1) := by decide +kernel
theorem dX5_pixel_21 : decode cX5_pixel 21 = .ok (.iaload, 1) := by decide +kernel
theorem dX5_pixel_22 : decode cX5_pixel 22 = .ok (.istore_n 3, 1) := by decide +kernel
theorem dX5_pixel_23 : decode cX5_pixel 23 = .ok (.iload_n 2, 1) := by decide +kernel
theorem dX5_pixel_24 : decode cX5_pixel 24 = .ok (.tableswitch 139 0 9 #[56, 58, 68, 80, 87, 94, 101, 110, 117, 132], 56) := by decide +kernel
theorem dX5_pixel_80 : decode cX5_pixel 80 = .ok (.iload_n 3, 1) := by decide +kernel
theorem dX5_pixel_81 : decode cX5_pixel 81 = .ok (.ireturn, 1) := by decide +kernel
theorem dX5_pixel_82 : decode cX5_pixel 82 = .ok (.aload_n 0, 1) := by decide +kernel
theorem dX5_pixel_83 : decode cX5_pixel 83 = .ok (.getfield 7, 3) := by decide +kernel
theorem dX5_pixel_86 : decode cX5_pixel 86 = .ok (.bipush 55, 2) := by decide +kernel
theorem dX5_pixel_88 : decode cX5_pixel 88 = .ok (.iload_n 1, 1) := by decide +kernel
theorem dX5_pixel_89 : decode cX5_pixel 89 = .ok (.iadd, 1) := by decide +kernel
theorem dX5_pixel_90 : decode cX5_pixel 90 = .ok (.iaload, 1) := by decide +kernel
theorem dX5_pixel_91 : decode cX5_pixel 91 = .ok (.ireturn, 1) := by decide +kernel
theorem dX5_pixel_92 : decode cX5_pixel 92 = .ok (.iload_n 3, 1) := by decide +kernel
theorem dX5_pixel_93 : decode cX5_pixel 93 = .ok (.aload_n 0, 1) := by decide +kernel
theorem dX5_pixel_94 : decode cX5_pixel 94 = .ok (.getfield 7, 3) := by decide +kernel
theorem dX5_pixel_97 : decode cX5_pixel 97 = .ok (.bipush 6, 2) := by decide +kernel
theorem dX5_pixel_99 : decode cX5_pixel 99 = .ok (.iaload, 1) := by decide +kernel
theorem dX5_pixel_100 : decode cX5_pixel 100 = .ok (.invokestatic 87, 3) := by decide +kernel
theorem dX5_pixel_103 : decode cX5_pixel 103 = .ok (.ireturn, 1) := by decide +kernel
theorem dX5_pixel_104 : decode cX5_pixel 104 = .ok (.aload_n 0, 1) := by decide +kernel
theorem dX5_pixel_105 : decode cX5_pixel 105 = .ok (.getfield 22, 3) := by decide +kernel
theorem dX5_pixel_108 : decode cX5_pixel 108 = .ok (.iload_n 1, 1) := by decide +kernel
theorem dX5_pixel_109 : decode cX5_pixel 109 = .ok (.iaload, 1) := by decide +kernel
theorem dX5_pixel_110 : decode cX5_pixel 110 = .ok (.ireturn, 1) := by decide +kernel
theorem dX5_pixel_111 : decode cX5_pixel 111 = .ok (.aload_n 0, 1) := by decide +kernel
theorem dX5_pixel_112 : decode cX5_pixel 112 = .ok (.getfield 25, 3) := by decide +kernel
theorem dX5_pixel_115 : decode cX5_pixel 115 = .ok (.iload_n 1, 1) := by decide +kernel
theorem dX5_pixel_116 : decode cX5_pixel 116 = .ok (.iaload, 1) := by decide +kernel
theorem dX5_pixel_117 : decode cX5_pixel 117 = .ok (.ireturn, 1) := by decide +kernel
theorem dX5_pixel_118 : decode cX5_pixel 118 = .ok (.aload_n 0, 1) := by decide +kernel
theorem dX5_pixel_119 : decode cX5_pixel 119 = .ok (.getfield 28, 3) := by decide +kernel
theorem dX5_pixel_122 : decode cX5_pixel 122 = .ok (.iload_n 1, 1) := by decide +kernel
theorem dX5_pixel_123 : decode cX5_pixel 123 = .ok (.iaload, 1) := by decide +kernel
theorem dX5_pixel_124 : decode cX5_pixel 124 = .ok (.ireturn, 1) := by decide +kernel
theorem dX5_pixel_125 : decode cX5_pixel 125 = .ok (.iload_n 3, 1) := by decide +kernel
theorem dX5_pixel_126 : decode cX5_pixel 126 = .ok (.aload_n 0, 1) := by decide +kernel
theorem dX5_pixel_127 : decode cX5_pixel 127 = .ok (.invokevirtual 83, 3) := by decide +kernel
theorem dX5_pixel_130 : decode cX5_pixel 130 = .ok (.invokestatic 99, 3) := by decide +kernel
theorem dX5_pixel_133 : decode cX5_pixel 133 = .ok (.ireturn, 1) := by decide +kernel
theorem dX5_pixel_134 : decode cX5_pixel 134 = .ok (.aload_n 0, 1) := by decide +kernel
theorem dX5_pixel_135 : decode cX5_pixel 135 = .ok (.getfield 31, 3) := by decide +kernel
theorem dX5_pixel_138 : decode cX5_pixel 138 = .ok (.iload_n 1, 1) := by decide +kernel
theorem dX5_pixel_139 : decode cX5_pixel 139 = .ok (.iaload, 1) := by decide +kernel
theorem dX5_pixel_140 : decode cX5_pixel 140 = .ok (.ireturn, 1) := by decide +kernel
theorem dX5_pixel_141 : decode cX5_pixel 141 = .ok (.iload_n 3, 1) := by decide +kernel
theorem dX5_pixel_142 : decode cX5_pixel 142 = .ok (.aload_n 0, 1) := by decide +kernel
theorem dX5_pixel_143 : decode cX5_pixel 143 = .ok (.invokevirtual 83, 3) := by decide +kernel
theorem dX5_pixel_146 : decode cX5_pixel 146 = .ok (.aload_n 0, 1) := by decide +kernel
theorem dX5_pixel_147 : decode cX5_pixel 147 = .ok (.getfield 31, 3) := by decide +kernel
theorem dX5_pixel_150 : decode cX5_pixel 150 = .ok (.iload_n 1, 1) := by decide +kernel
theorem dX5_pixel_151 : decode cX5_pixel 151 = .ok (.iaload, 1) := by decide +kernel
theorem dX5_pixel_152 : decode cX5_pixel 152 = .ok (.invokestatic 105, 3) := by decide +kernel
theorem dX5_pixel_155 : decode cX5_pixel 155 = .ok (.ireturn, 1) := by decide +kernel
theorem dX5_pixel_156 : decode cX5_pixel 156 = .ok (.aload_n 0, 1) := by decide +kernel
theorem dX5_pixel_157 : decode cX5_pixel 157 = .ok (.getfield 34, 3) := by decide +kernel
theorem dX5_pixel_160 : decode cX5_pixel 160 = .ok (.iload_n 1, 1) := by decide +kernel
theorem dX5_pixel_161 : decode cX5_pixel 161 = .ok (.iaload, 1) := by decide +kernel
theorem dX5_pixel_162 : decode cX5_pixel 162 = .ok (.ireturn, 1) := by decide +kernel
theorem dX5_pixel_163 : decode cX5_pixel 163 = .ok (.bipush (-2), 2) := by decide +kernel
theorem dX5_pixel_165 : decode cX5_pixel 165 = .ok (.ireturn, 1) := by decide +kernel
theorem dX5_ofKind_0 : decode cX5_ofKind 0 = .ok (.iconst 0, 1) := by decide +kernel
theorem dX5_ofKind_1 : decode cX5_ofKind 1 = .ok (.istore_n 2, 1) := by decide +kernel
theorem dX5_ofKind_2 : decode cX5_ofKind 2 = .ok (.iconst 0, 1) := by decide +kernel
theorem dX5_ofKind_3 : decode cX5_ofKind 3 = .ok (.istore_n 3, 1) := by decide +kernel
theorem dX5_ofKind_4 : decode cX5_ofKind 4 = .ok (.iload_n 3, 1) := by decide +kernel
theorem dX5_ofKind_5 : decode cX5_ofKind 5 = .ok (.bipush 48, 2) := by decide +kernel
theorem dX5_ofKind_7 : decode cX5_ofKind 7 = .ok (.if_icmp .ge 27, 3) := by decide +kernel
theorem dX5_ofKind_10 : decode cX5_ofKind 10 = .ok (.iload_n 2, 1) := by decide +kernel
theorem dX5_ofKind_11 : decode cX5_ofKind 11 = .ok (.aload_n 0, 1) := by decide +kernel
theorem dX5_ofKind_12 : decode cX5_ofKind 12 = .ok (.getfield 28, 3) := by decide +kernel
theorem dX5_ofKind_15 : decode cX5_ofKind 15 = .ok (.iload_n 3, 1) := by decide +kernel
theorem dX5_ofKind_16 : decode cX5_ofKind 16 = .ok (.iaload, 1) := by decide +kernel
theorem dX5_ofKind_17 : decode cX5_ofKind 17 = .ok (.iload_n 1, 1) := by decide +kernel
theorem dX5_ofKind_18 : decode cX5_ofKind 18 = .ok (.if_icmp .ne 7, 3) := by decide +kernel
theorem dX5_ofKind_21 : decode cX5_ofKind 21 = .ok (.iconst 1, 1) := by decide +kernel
theorem dX5_ofKind_22 : decode cX5_ofKind 22 = .ok (.goto 4, 3) := by decide +kernel
theorem dX5_ofKind_25 : decode cX5_ofKind 25 = .ok (.iconst 0, 1) := by decide +kernel
theorem dX5_ofKind_26 : decode cX5_ofKind 26 = .ok (.iadd, 1) := by decide +kernel
theorem dX5_ofKind_27 : decode cX5_ofKind 27 = .ok (.istore_n 2, 1) := by decide +kernel
theorem dX5_ofKind_28 : decode cX5_ofKind 28 = .ok (.iinc 3 1, 3) := by decide +kernel
theorem dX5_ofKind_31 : decode cX5_ofKind 31 = .ok (.goto (-27), 3) := by decide +kernel
theorem dX5_ofKind_34 : decode cX5_ofKind 34 = .ok (.iload_n 2, 1) := by decide +kernel
theorem dX5_ofKind_35 : decode cX5_ofKind 35 = .ok (.ireturn, 1) := by decide +kernel
set_option maxRecDepth 20000 in
theorem ggX5_over_X5_mainPart : GoodIn wsX5_over wsX5_mainPart := goodIn_r _ [10, 1, 11, 12, 9, 13, 20, 21, 22, 23, 24, 25, 26, 27, 28, 29, 30, 31, 32, 33, 34, 35, 36] (by decide +kernel) (by decide +kernel)
set_option maxRecDepth 20000 in
theorem gX5_over_X5_mainPart : GoodIn wsX5_over (wsV RX5 83 RX5 yX5_mainPart wsX5_mainPart) := goodIn_app (goodIn_of _ (by decide +kernel)) ggX5_over_X5_mainPart
set_option maxRecDepth 20000 in
theorem ggX5_over_X5_spillOf : GoodIn wsX5_over wsX5_spillOf := goodIn_r _ [16, 11, 12, 9, 13, 17, 18, 19] (by decide +kernel) (by decide +kernel)
set_option maxRecDepth 20000 in
theorem gX5_over_X5_spillOf : GoodIn wsX5_over (va_wsS RX5 99 yX5_spillOf wsX5_spillOf) := goodIn_app (goodIn_of _ (by decide +kernel)) ggX5_over_X5_spillOf
theorem dX5_over_0 : decode cX5_over 0 = .ok (.aload_n 0, 1) := by decide +kernel
theorem dX5_over_1 : decode cX5_over 1 = .ok (.invokevirtual 83, 3) := by decide +kernel
theorem dX5_over_4 : decode cX5_over 4 = .ok (.istore_n 2, 1) := by decide +kernel
theorem dX5_over_5 : decode cX5_over 5 = .ok (.iconst 0, 1) := by decide +kernel
theorem dX5_over_6 : decode cX5_over 6 = .ok (.istore_n 3, 1) := by decide +kernel
theorem dX5_over_7 : decode cX5_over 7 = .ok (.iconst 0, 1) := by decide +kernel
theorem dX5_over_8 : decode cX5_over 8 = .ok (.istore 4, 2) := by decide +kernel
theorem dX5_over_10 : decode cX5_over 10 = .ok (.iload 4, 2) := by decide +kernel
theorem dX5_over_12 : decode cX5_over 12 = .ok (.bipush 48, 2) := by decide +kernel
theorem dX5_over_14 : decode cX5_over 14 = .ok (.if_icmp .ge 138, 3) := by decide +kernel
theorem dX5_over_17 : decode cX5_over 17 = .ok (.aload_n 0, 1) := by decide +kernel
theorem dX5_over_18 : decode cX5_over 18 = .ok (.getfield 7, 3) := by decide +kernel
theorem dX5_over_21 : decode cX5_over 21 = .ok (.bipush 7, 2) := by decide +kernel
theorem dX5_over_23 : decode cX5_over 23 = .ok (.iload 4, 2) := by decide +kernel
theorem dX5_over_25 : decode cX5_over 25 = .ok (.iadd, 1) := by decide +kernel
theorem dX5_over_26 : decode cX5_over 26 = .ok (.iaload, 1) := by decide +kernel
theorem dX5_over_27 : decode cX5_over 27 = .ok (.istore 5, 2) := by decide +kernel
theorem dX5_over_29 : decode cX5_over 29 = .ok (.iload_n 3, 1) := by decide +kernel
theorem dX5_over_30 : decode cX5_over 30 = .ok (.iload_n 1, 1) := by decide +kernel
theorem dX5_over_31 : decode cX5_over 31 = .ok (.bipush 12, 2) := by decide +kernel
theorem dX5_over_33 : decode cX5_over 33 = .ok (.if_icmp .ne 13, 3) := by decide +kernel
theorem dX5_over_36 : decode cX5_over 36 = .ok (.aload_n 0, 1) := by decide +kernel
theorem dX5_over_37 : decode cX5_over 37 = .ok (.getfield 25, 3) := by decide +kernel
theorem dX5_over_40 : decode cX5_over 40 = .ok (.iload 4, 2) := by decide +kernel
theorem dX5_over_42 : decode cX5_over 42 = .ok (.iaload, 1) := by decide +kernel
theorem dX5_over_43 : decode cX5_over 43 = .ok (.goto 101, 3) := by decide +kernel
theorem dX5_over_46 : decode cX5_over 46 = .ok (.iload_n 1, 1) := by decide +kernel
theorem dX5_over_47 : decode cX5_over 47 = .ok (.bipush 13, 2) := by decide +kernel
theorem dX5_over_49 : decode cX5_over 49 = .ok (.if_icmp .ne 12, 3) := by decide +kernel
theorem dX5_over_52 : decode cX5_over 52 = .ok (.iload 5, 2) := by decide +kernel
theorem dX5_over_54 : decode cX5_over 54 = .ok (.iload_n 2, 1) := by decide +kernel
theorem dX5_over_55 : decode cX5_over 55 = .ok (.invokestatic 99, 3) := by decide +kernel
theorem dX5_over_58 : decode cX5_over 58 = .ok (.goto 86, 3) := by decide +kernel
theorem dX5_over_61 : decode cX5_over 61 = .ok (.iload_n 1, 1) := by decide +kernel
theorem dX5_over_62 : decode cX5_over 62 = .ok (.bipush 14, 2) := by decide +kernel
theorem dX5_over_64 : decode cX5_over 64 = .ok (.if_icmp .ne 13, 3) := by decide +kernel
theorem dX5_over_67 : decode cX5_over 67 = .ok (.aload_n 0, 1) := by decide +kernel
theorem dX5_over_68 : decode cX5_over 68 = .ok (.getfield 31, 3) := by decide +kernel
theorem dX5_over_71 : decode cX5_over 71 = .ok (.iload 4, 2) := by decide +kernel
theorem dX5_over_73 : decode cX5_over 73 = .ok (.iaload, 1) := by decide +kernel
theorem dX5_over_74 : decode cX5_over 74 = .ok (.goto 70, 3) := by decide +kernel
theorem dX5_over_77 : decode cX5_over 77 = .ok (.iload_n 1, 1) := by decide +kernel
theorem dX5_over_78 : decode cX5_over 78 = .ok (.bipush 15, 2) := by decide +kernel
theorem dX5_over_80 : decode cX5_over 80 = .ok (.if_icmp .ne 28, 3) := by decide +kernel
theorem dX5_over_83 : decode cX5_over 83 = .ok (.aload_n 0, 1) := by decide +kernel
theorem dX5_over_84 : decode cX5_over 84 = .ok (.getfield 25, 3) := by decide +kernel
theorem dX5_over_87 : decode cX5_over 87 = .ok (.iload 4, 2) := by decide +kernel
theorem dX5_over_89 : decode cX5_over 89 = .ok (.iaload, 1) := by decide +kernel
theorem dX5_over_90 : decode cX5_over 90 = .ok (.aload_n 0, 1) := by decide +kernel
theorem dX5_over_91 : decode cX5_over 91 = .ok (.getfield 22, 3) := by decide +kernel
theorem dX5_over_94 : decode cX5_over 94 = .ok (.iload 4, 2) := by decide +kernel
theorem dX5_over_96 : decode cX5_over 96 = .ok (.iaload, 1) := by decide +kernel
theorem dX5_over_97 : decode cX5_over 97 = .ok (.if_icmp .ne 7, 3) := by decide +kernel
theorem dX5_over_100 : decode cX5_over 100 = .ok (.iconst 0, 1) := by decide +kernel
theorem dX5_over_101 : decode cX5_over 101 = .ok (.goto 43, 3) := by decide +kernel
theorem dX5_over_104 : decode cX5_over 104 = .ok (.iconst 1, 1) := by decide +kernel
theorem dX5_over_105 : decode cX5_over 105 = .ok (.goto 39, 3) := by decide +kernel
theorem dX5_over_108 : decode cX5_over 108 = .ok (.aload_n 0, 1) := by decide +kernel
theorem dX5_over_109 : decode cX5_over 109 = .ok (.getfield 34, 3) := by decide +kernel
theorem dX5_over_112 : decode cX5_over 112 = .ok (.iload 4, 2) := by decide +kernel
theorem dX5_over_114 : decode cX5_over 114 = .ok (.iaload, 1) := by decide +kernel
theorem dX5_over_115 : decode cX5_over 115 = .ok (.iload_n 1, 1) := by decide +kernel
theorem dX5_over_116 : decode cX5_over 116 = .ok (.bipush 16, 2) := by decide +kernel
theorem dX5_over_118 : decode cX5_over 118 = .ok (.if_icmp .ne 16, 3) := by decide +kernel
theorem dX5_over_121 : decode cX5_over 121 = .ok (.aload_n 0, 1) := by decide +kernel
theorem dX5_over_122 : decode cX5_over 122 = .ok (.getfield 7, 3) := by decide +kernel
theorem dX5_over_125 : decode cX5_over 125 = .ok (.bipush 55, 2) := by decide +kernel
theorem dX5_over_127 : decode cX5_over 127 = .ok (.iload 4, 2) := by decide +kernel
theorem dX5_over_129 : decode cX5_over 129 = .ok (.iadd, 1) := by decide +kernel
theorem dX5_over_130 : decode cX5_over 130 = .ok (.iaload, 1) := by decide +kernel
theorem dX5_over_131 : decode cX5_over 131 = .ok (.goto 5, 3) := by decide +kernel
theorem dX5_over_134 : decode cX5_over 134 = .ok (.iload 5, 2) := by decide +kernel
theorem dX5_over_136 : decode cX5_over 136 = .ok (.if_icmp .ne 7, 3) := by decide +kernel
theorem dX5_over_139 : decode cX5_over 139 = .ok (.iconst 1, 1) := by decide +kernel
theorem dX5_over_140 : decode cX5_over 140 = .ok (.goto 4, 3) := by decide +kernel
theorem dX5_over_143 : decode cX5_over 143 = .ok (.iconst 0, 1) := by decide +kernel
theorem dX5_over_144 : decode cX5_over 144 = .ok (.iadd, 1) := by decide +kernel
theorem dX5_over_145 : decode cX5_over 145 = .ok (.istore_n 3, 1) := by decide +kernel
theorem dX5_over_146 : decode cX5_over 146 = .ok (.iinc 4 1, 3) := by decide +kernel
theorem dX5_over_149 : decode cX5_over 149 = .ok (.goto (-139), 3) := by decide +kernel
theorem dX5_over_152 : decode cX5_over 152 = .ok (.iload_n 3, 1) := by decide +kernel
theorem dX5_over_153 : decode cX5_over 153 = .ok (.ireturn, 1) := by decide +kernel
set_option maxRecDepth 20000 in
theorem ggX5_count_X5_works : GoodIn wsX5_count wsX5_works := goodIn_r _ [13, 14, 2, 15, 16, 17, 18, 19, 20, 21, 22, 12, 23, 24, 25, 26, 27, 28, 29, 30, 31, 32, 33, 34, 35, 36, 37, 38, 39, 40, 41, 42, 43, 44, 45, 46, 3, 47, 48, 49, 50, 51, 52, 53, 54, 55, 56, 57, 58, 59, 60, 61, 62, 63, 64, 65, 66, 67, 68, 69, 70, 71, 72, 73, 74, 75, 88, 89, 90, 91, 92, 93, 94, 95, 96, 97, 98, 99, 100, 101, 102, 103, 104] (by decide +kernel) (by decide +kernel)
set_option maxRecDepth 20000 in
theorem gX5_count_X5_works : GoodIn wsX5_count (wsV RX5 146 RX5 yX5_works wsX5_works) := goodIn_app (goodIn_of _ (by decide +kernel)) ggX5_count_X5_works
set_option maxRecDepth 20000 in
theorem ggX5_count_X5_in : GoodIn wsX5_count wsX5_in := goodIn_r _ [50] (by decide +kernel) (by decide +kernel)
set_option maxRecDepth 20000 in
theorem gX5_count_X5_in : GoodIn wsX5_count (va_wsS RX5 66 yX5_in wsX5_in) := goodIn_app (goodIn_of _ (by decide +kernel)) ggX5_count_X5_in
set_option maxRecDepth 20000 in
theorem ggX5_count_X5_ofKind : GoodIn wsX5_count wsX5_ofKind := goodIn_r _ [79, 17, 88, 89, 90, 91, 92, 93, 94, 95, 96, 97, 98, 99, 100, 101, 102, 103, 104] (by decide +kernel) (by decide +kernel)
set_option maxRecDepth 20000 in
theorem gX5_count_X5_ofKind : GoodIn wsX5_count (wsV RX5 153 RX5 yX5_ofKind wsX5_ofKind) := goodIn_app (goodIn_of _ (by decide +kernel)) ggX5_count_X5_ofKind
set_option maxRecDepth 20000 in
theorem ggX5_count_X5_over : GoodIn wsX5_count wsX5_over := goodIn_r _ [83, 2, 15, 18, 14, 19, 20, 21, 22, 12, 23, 24, 25, 26, 59, 60, 61, 62, 63, 64, 88, 89, 90, 91, 92, 93, 94, 95, 96, 97, 98, 99, 100, 101, 102, 103, 104] (by decide +kernel) (by decide +kernel)
set_option maxRecDepth 20000 in
theorem gX5_count_X5_over : GoodIn wsX5_count (wsV RX5 160 RX5 yX5_over wsX5_over) := goodIn_app (goodIn_of _ (by decide +kernel)) ggX5_count_X5_over
set_option maxRecDepth 20000 in
theorem ggX5_count_X5_marked : GoodIn wsX5_count wsX5_marked := goodIn_r _ [87, 2, 88, 89, 90, 91, 92, 93, 94, 95, 96, 97, 98, 99, 100, 101, 102, 103, 104] (by decide +kernel) (by decide +kernel)
set_option maxRecDepth 20000 in
theorem gX5_count_X5_marked : GoodIn wsX5_count (wsV RX5 143 RX5 yX5_marked wsX5_marked) := goodIn_app (goodIn_of _ (by decide +kernel)) ggX5_count_X5_marked
theorem dX5_count_0 : decode cX5_count 0 = .ok (.aload_n 0, 1) := by decide +kernel
theorem dX5_count_1 : decode cX5_count 1 = .ok (.invokevirtual 146, 3) := by decide +kernel
theorem dX5_count_4 : decode cX5_count 4 = .ok (.iload_n 1, 1) := by decide +kernel
theorem dX5_count_5 : decode cX5_count 5 = .ok (.i2l, 1) := by decide +kernel
theorem dX5_count_6 : decode cX5_count 6 = .ok (.lconst 0, 1) := by decide +kernel
theorem dX5_count_7 : decode cX5_count 7 = .ok (.ldc2_w 149, 3) := by decide +kernel
theorem dX5_count_10 : decode cX5_count 10 = .ok (.invokestatic 66, 3) := by decide +kernel
theorem dX5_count_13 : decode cX5_count 13 = .ok (.ifCond .eq 10, 3) := by decide +kernel
theorem dX5_count_16 : decode cX5_count 16 = .ok (.aload_n 0, 1) := by decide +kernel
theorem dX5_count_17 : decode cX5_count 17 = .ok (.getfield 7, 3) := by decide +kernel
theorem dX5_count_20 : decode cX5_count 20 = .ok (.iload_n 1, 1) := by decide +kernel
theorem dX5_count_21 : decode cX5_count 21 = .ok (.iaload, 1) := by decide +kernel
theorem dX5_count_22 : decode cX5_count 22 = .ok (.ireturn, 1) := by decide +kernel
theorem dX5_count_23 : decode cX5_count 23 = .ok (.iload_n 1, 1) := by decide +kernel
theorem dX5_count_24 : decode cX5_count 24 = .ok (.i2l, 1) := by decide +kernel
theorem dX5_count_25 : decode cX5_count 25 = .ok (.ldc2_w 64, 3) := by decide +kernel
theorem dX5_count_28 : decode cX5_count 28 = .ok (.ldc2_w 151, 3) := by decide +kernel
theorem dX5_count_31 : decode cX5_count 31 = .ok (.invokestatic 66, 3) := by decide +kernel
theorem dX5_count_34 : decode cX5_count 34 = .ok (.ifCond .eq 12, 3) := by decide +kernel
theorem dX5_count_37 : decode cX5_count 37 = .ok (.aload_n 0, 1) := by decide +kernel
theorem dX5_count_38 : decode cX5_count 38 = .ok (.iload_n 1, 1) := by decide +kernel
theorem dX5_count_39 : decode cX5_count 39 = .ok (.bipush 7, 2) := by decide +kernel
theorem dX5_count_41 : decode cX5_count 41 = .ok (.isub, 1) := by decide +kernel
theorem dX5_count_42 : decode cX5_count 42 = .ok (.invokevirtual 153, 3) := by decide +kernel
theorem dX5_count_45 : decode cX5_count 45 = .ok (.ireturn, 1) := by decide +kernel
theorem dX5_count_46 : decode cX5_count 46 = .ok (.iload_n 1, 1) := by decide +kernel
theorem dX5_count_47 : decode cX5_count 47 = .ok (.i2l, 1) := by decide +kernel
theorem dX5_count_48 : decode cX5_count 48 = .ok (.ldc2_w 156, 3) := by decide +kernel
theorem dX5_count_51 : decode cX5_count 51 = .ok (.ldc2_w 158, 3) := by decide +kernel
theorem dX5_count_54 : decode cX5_count 54 = .ok (.invokestatic 66, 3) := by decide +kernel
theorem dX5_count_57 : decode cX5_count 57 = .ok (.ifCond .eq 9, 3) := by decide +kernel
theorem dX5_count_60 : decode cX5_count 60 = .ok (.aload_n 0, 1) := by decide +kernel
theorem dX5_count_61 : decode cX5_count 61 = .ok (.iload_n 1, 1) := by decide +kernel
theorem dX5_count_62 : decode cX5_count 62 = .ok (.invokevirtual 160, 3) := by decide +kernel
theorem dX5_count_65 : decode cX5_count 65 = .ok (.ireturn, 1) := by decide +kernel
theorem dX5_count_66 : decode cX5_count 66 = .ok (.iload_n 1, 1) := by decide +kernel
theorem dX5_count_67 : decode cX5_count 67 = .ok (.bipush 18, 2) := by decide +kernel
theorem dX5_count_69 : decode cX5_count 69 = .ok (.if_icmp .ne 10, 3) := by decide +kernel
theorem dX5_count_72 : decode cX5_count 72 = .ok (.aload_n 0, 1) := by decide +kernel
theorem dX5_count_73 : decode cX5_count 73 = .ok (.invokevirtual 143, 3) := by decide +kernel
theorem dX5_count_76 : decode cX5_count 76 = .ok (.goto 31, 3) := by decide +kernel
theorem dX5_count_79 : decode cX5_count 79 = .ok (.iload_n 1, 1) := by decide +kernel
theorem dX5_count_80 : decode cX5_count 80 = .ok (.bipush 19, 2) := by decide +kernel
theorem dX5_count_82 : decode cX5_count 82 = .ok (.if_icmp .ne 10, 3) := by decide +kernel
theorem dX5_count_85 : decode cX5_count 85 = .ok (.aload_n 0, 1) := by decide +kernel
theorem dX5_count_86 : decode cX5_count 86 = .ok (.getfield 163, 3) := by decide +kernel
theorem dX5_count_89 : decode cX5_count 89 = .ok (.goto 18, 3) := by decide +kernel
theorem dX5_count_92 : decode cX5_count 92 = .ok (.iload_n 1, 1) := by decide +kernel
theorem dX5_count_93 : decode cX5_count 93 = .ok (.bipush 20, 2) := by decide +kernel
theorem dX5_count_95 : decode cX5_count 95 = .ok (.if_icmp .ne 10, 3) := by decide +kernel
theorem dX5_count_98 : decode cX5_count 98 = .ok (.aload_n 0, 1) := by decide +kernel
theorem dX5_count_99 : decode cX5_count 99 = .ok (.getfield 49, 3) := by decide +kernel
theorem dX5_count_102 : decode cX5_count 102 = .ok (.goto 5, 3) := by decide +kernel
theorem dX5_count_105 : decode cX5_count 105 = .ok (.bipush (-2), 2) := by decide +kernel
theorem dX5_count_107 : decode cX5_count 107 = .ok (.ireturn, 1) := by decide +kernel
set_option maxRecDepth 20000 in
theorem ggX5_row_X5_in : GoodIn wsX5_row wsX5_in := goodIn_r _ [7] (by decide +kernel) (by decide +kernel)
set_option maxRecDepth 20000 in
theorem gX5_row_X5_in : GoodIn wsX5_row (va_wsS RX5 66 yX5_in wsX5_in) := goodIn_app (goodIn_of _ (by decide +kernel)) ggX5_row_X5_in
set_option maxRecDepth 20000 in
theorem ggX5_row_X5_works : GoodIn wsX5_row wsX5_works := goodIn_r _ [11, 12, 13, 14, 15, 3, 16, 17, 18, 19, 20, 6, 21, 22, 23, 24, 25, 26, 27, 28, 29, 30, 31, 32, 33, 34, 35, 36, 37, 38, 39, 40, 41, 42, 43, 44, 45, 1, 4, 5, 7, 46, 47, 48, 49, 50, 51, 52, 53, 54, 55, 56, 57, 58, 59, 60, 61, 62, 63, 64, 65, 66, 67, 68, 69, 70, 71, 72, 73, 74, 75, 76, 77, 78, 79, 80, 81, 82, 83, 84, 85, 86, 87] (by decide +kernel) (by decide +kernel)
set_option maxRecDepth 20000 in
theorem gX5_row_X5_works : GoodIn wsX5_row (wsV RX5 146 RX5 yX5_works wsX5_works) := goodIn_app (goodIn_of _ (by decide +kernel)) ggX5_row_X5_works
theorem dX5_row_0 : decode cX5_row 0 = .ok (.iload_n 1, 1) := by decide +kernel
theorem dX5_row_1 : decode cX5_row 1 = .ok (.i2l, 1) := by decide +kernel
theorem dX5_row_2 : decode cX5_row 2 = .ok (.lconst 0, 1) := by decide +kernel
theorem dX5_row_3 : decode cX5_row 3 = .ok (.ldc2_w 70, 3) := by decide +kernel
theorem dX5_row_6 : decode cX5_row 6 = .ok (.invokestatic 66, 3) := by decide +kernel
theorem dX5_row_9 : decode cX5_row 9 = .ok (.ifCond .ne 5, 3) := by decide +kernel
theorem dX5_row_12 : decode cX5_row 12 = .ok (.iconst (-1), 1) := by decide +kernel
theorem dX5_row_13 : decode cX5_row 13 = .ok (.ireturn, 1) := by decide +kernel
theorem dX5_row_14 : decode cX5_row 14 = .ok (.iload_n 2, 1) := by decide +kernel
theorem dX5_row_15 : decode cX5_row 15 = .ok (.i2l, 1) := by decide +kernel
theorem dX5_row_16 : decode cX5_row 16 = .ok (.lconst 0, 1) := by decide +kernel
theorem dX5_row_17 : decode cX5_row 17 = .ok (.ldc2_w 166, 3) := by decide +kernel
theorem dX5_row_20 : decode cX5_row 20 = .ok (.invokestatic 66, 3) := by decide +kernel
theorem dX5_row_23 : decode cX5_row 23 = .ok (.ifCond .ne 6, 3) := by decide +kernel
theorem dX5_row_26 : decode cX5_row 26 = .ok (.bipush (-2), 2) := by decide +kernel
theorem dX5_row_28 : decode cX5_row 28 = .ok (.ireturn, 1) := by decide +kernel
theorem dX5_row_29 : decode cX5_row 29 = .ok (.aload_n 0, 1) := by decide +kernel
theorem dX5_row_30 : decode cX5_row 30 = .ok (.invokevirtual 146, 3) := by decide +kernel
theorem dX5_row_33 : decode cX5_row 33 = .ok (.iconst 0, 1) := by decide +kernel
theorem dX5_row_34 : decode cX5_row 34 = .ok (.istore_n 3, 1) := by decide +kernel
theorem dX5_row_35 : decode cX5_row 35 = .ok (.iconst 0, 1) := by decide +kernel
theorem dX5_row_36 : decode cX5_row 36 = .ok (.istore 4, 2) := by decide +kernel
theorem dX5_row_38 : decode cX5_row 38 = .ok (.iload 4, 2) := by decide +kernel
theorem dX5_row_40 : decode cX5_row 40 = .ok (.bipush 8, 2) := by decide +kernel
theorem dX5_row_42 : decode cX5_row 42 = .ok (.if_icmp .ge 36, 3) := by decide +kernel
theorem dX5_row_45 : decode cX5_row 45 = .ok (.iload_n 3, 1) := by decide +kernel
theorem dX5_row_46 : decode cX5_row 46 = .ok (.aload_n 0, 1) := by decide +kernel
theorem dX5_row_47 : decode cX5_row 47 = .ok (.getfield 28, 3) := by decide +kernel
theorem dX5_row_50 : decode cX5_row 50 = .ok (.bipush 8, 2) := by decide +kernel
theorem dX5_row_52 : decode cX5_row 52 = .ok (.iload_n 1, 1) := by decide +kernel
theorem dX5_row_53 : decode cX5_row 53 = .ok (.imul, 1) := by decide +kernel
theorem dX5_row_54 : decode cX5_row 54 = .ok (.iload 4, 2) := by decide +kernel
theorem dX5_row_56 : decode cX5_row 56 = .ok (.iadd, 1) := by decide +kernel
theorem dX5_row_57 : decode cX5_row 57 = .ok (.iaload, 1) := by decide +kernel
theorem dX5_row_58 : decode cX5_row 58 = .ok (.iload_n 2, 1) := by decide +kernel
theorem dX5_row_59 : decode cX5_row 59 = .ok (.if_icmp .ne 10, 3) := by decide +kernel
theorem dX5_row_62 : decode cX5_row 62 = .ok (.iconst 1, 1) := by decide +kernel
theorem dX5_row_63 : decode cX5_row 63 = .ok (.iload 4, 2) := by decide +kernel
theorem dX5_row_65 : decode cX5_row 65 = .ok (.ishl, 1) := by decide +kernel
theorem dX5_row_66 : decode cX5_row 66 = .ok (.goto 4, 3) := by decide +kernel
theorem dX5_row_69 : decode cX5_row 69 = .ok (.iconst 0, 1) := by decide +kernel
theorem dX5_row_70 : decode cX5_row 70 = .ok (.ior, 1) := by decide +kernel
theorem dX5_row_71 : decode cX5_row 71 = .ok (.istore_n 3, 1) := by decide +kernel
theorem dX5_row_72 : decode cX5_row 72 = .ok (.iinc 4 1, 3) := by decide +kernel
theorem dX5_row_75 : decode cX5_row 75 = .ok (.goto (-37), 3) := by decide +kernel
theorem dX5_row_78 : decode cX5_row 78 = .ok (.iload_n 3, 1) := by decide +kernel
theorem dX5_row_79 : decode cX5_row 79 = .ok (.ireturn, 1) := by decide +kernel
set_option maxRecDepth 20000 in
theorem ggX5_bestScreen_X5_in : GoodIn wsX5_bestScreen wsX5_in := goodIn_r _ [5] (by decide +kernel) (by decide +kernel)
set_option maxRecDepth 20000 in
theorem gX5_bestScreen_X5_in : GoodIn wsX5_bestScreen (va_wsS RX5 66 yX5_in wsX5_in) := goodIn_app (goodIn_of _ (by decide +kernel)) ggX5_bestScreen_X5_in
set_option maxRecDepth 20000 in
theorem ggX5_bestScreen_X5_works : GoodIn wsX5_bestScreen wsX5_works := goodIn_r _ [9, 10, 1, 11, 12, 13, 14, 15, 16, 17, 18, 4, 19, 20, 21, 22, 23, 24, 25, 26, 27, 28, 29, 30, 31, 32, 33, 34, 35, 36, 37, 38, 39, 40, 41, 42, 43, 44, 2, 3, 5, 45, 46, 47, 48, 49, 50, 51, 52, 53, 54, 55, 56, 57, 58, 59, 60, 61, 62, 63, 64, 65, 66, 67, 68, 69, 74, 75, 76, 77, 78, 79, 80, 81, 82, 83, 84, 85, 86, 87, 88, 89, 90] (by decide +kernel) (by decide +kernel)
set_option maxRecDepth 20000 in
theorem gX5_bestScreen_X5_works : GoodIn wsX5_bestScreen (wsV RX5 146 RX5 yX5_works wsX5_works) := goodIn_app (goodIn_of _ (by decide +kernel)) ggX5_bestScreen_X5_works
set_option maxRecDepth 20000 in
theorem ggX5_bestScreen_X5_ofKind : GoodIn wsX5_bestScreen wsX5_ofKind := goodIn_r _ [73, 13, 74, 75, 76, 77, 78, 79, 80, 81, 82, 83, 84, 85, 86, 87, 88, 89, 90] (by decide +kernel) (by decide +kernel)
set_option maxRecDepth 20000 in
theorem gX5_bestScreen_X5_ofKind : GoodIn wsX5_bestScreen (wsV RX5 153 RX5 yX5_ofKind wsX5_ofKind) := goodIn_app (goodIn_of _ (by decide +kernel)) ggX5_bestScreen_X5_ofKind
theorem dX5_bestScreen_0 : decode cX5_bestScreen 0 = .ok (.iload_n 1, 1) := by decide +kernel
theorem dX5_bestScreen_1 : decode cX5_bestScreen 1 = .ok (.i2l, 1) := by decide +kernel
theorem dX5_bestScreen_2 : decode cX5_bestScreen 2 = .ok (.lconst 0, 1) := by decide +kernel
theorem dX5_bestScreen_3 : decode cX5_bestScreen 3 = .ok (.lconst 1, 1) := by decide +kernel
theorem dX5_bestScreen_4 : decode cX5_bestScreen 4 = .ok (.invokestatic 66, 3) := by decide +kernel
theorem dX5_bestScreen_7 : decode cX5_bestScreen 7 = .ok (.ifCond .ne 6, 3) := by decide +kernel
theorem dX5_bestScreen_10 : decode cX5_bestScreen 10 = .ok (.bipush (-2), 2) := by decide +kernel
theorem dX5_bestScreen_12 : decode cX5_bestScreen 12 = .ok (.ireturn, 1) := by decide +kernel
theorem dX5_bestScreen_13 : decode cX5_bestScreen 13 = .ok (.aload_n 0, 1) := by decide +kernel
theorem dX5_bestScreen_14 : decode cX5_bestScreen 14 = .ok (.getfield 7, 3) := by decide +kernel
theorem dX5_bestScreen_17 : decode cX5_bestScreen 17 = .ok (.bipush 6, 2) := by decide +kernel
theorem dX5_bestScreen_19 : decode cX5_bestScreen 19 = .ok (.iaload, 1) := by decide +kernel
theorem dX5_bestScreen_20 : decode cX5_bestScreen 20 = .ok (.istore_n 2, 1) := by decide +kernel
theorem dX5_bestScreen_21 : decode cX5_bestScreen 21 = .ok (.iconst 0, 1) := by decide +kernel
theorem dX5_bestScreen_22 : decode cX5_bestScreen 22 = .ok (.istore_n 3, 1) := by decide +kernel
theorem dX5_bestScreen_23 : decode cX5_bestScreen 23 = .ok (.iconst (-1), 1) := by decide +kernel
theorem dX5_bestScreen_24 : decode cX5_bestScreen 24 = .ok (.istore 4, 2) := by decide +kernel
theorem dX5_bestScreen_26 : decode cX5_bestScreen 26 = .ok (.iconst 0, 1) := by decide +kernel
theorem dX5_bestScreen_27 : decode cX5_bestScreen 27 = .ok (.istore 5, 2) := by decide +kernel
theorem dX5_bestScreen_29 : decode cX5_bestScreen 29 = .ok (.iload 5, 2) := by decide +kernel
theorem dX5_bestScreen_31 : decode cX5_bestScreen 31 = .ok (.bipush 48, 2) := by decide +kernel
theorem dX5_bestScreen_33 : decode cX5_bestScreen 33 = .ok (.if_icmp .ge 67, 3) := by decide +kernel
theorem dX5_bestScreen_36 : decode cX5_bestScreen 36 = .ok (.aload_n 0, 1) := by decide +kernel
theorem dX5_bestScreen_37 : decode cX5_bestScreen 37 = .ok (.getfield 7, 3) := by decide +kernel
theorem dX5_bestScreen_40 : decode cX5_bestScreen 40 = .ok (.bipush 6, 2) := by decide +kernel
theorem dX5_bestScreen_42 : decode cX5_bestScreen 42 = .ok (.aload_n 0, 1) := by decide +kernel
theorem dX5_bestScreen_43 : decode cX5_bestScreen 43 = .ok (.getfield 7, 3) := by decide +kernel
theorem dX5_bestScreen_46 : decode cX5_bestScreen 46 = .ok (.bipush 7, 2) := by decide +kernel
theorem dX5_bestScreen_48 : decode cX5_bestScreen 48 = .ok (.iload 5, 2) := by decide +kernel
theorem dX5_bestScreen_50 : decode cX5_bestScreen 50 = .ok (.iadd, 1) := by decide +kernel
theorem dX5_bestScreen_51 : decode cX5_bestScreen 51 = .ok (.iaload, 1) := by decide +kernel
theorem dX5_bestScreen_52 : decode cX5_bestScreen 52 = .ok (.iastore, 1) := by decide +kernel
theorem dX5_bestScreen_53 : decode cX5_bestScreen 53 = .ok (.aload_n 0, 1) := by decide +kernel
theorem dX5_bestScreen_54 : decode cX5_bestScreen 54 = .ok (.invokevirtual 146, 3) := by decide +kernel
theorem dX5_bestScreen_57 : decode cX5_bestScreen 57 = .ok (.aload_n 0, 1) := by decide +kernel
theorem dX5_bestScreen_58 : decode cX5_bestScreen 58 = .ok (.iconst 0, 1) := by decide +kernel
theorem dX5_bestScreen_59 : decode cX5_bestScreen 59 = .ok (.invokevirtual 153, 3) := by decide +kernel
theorem dX5_bestScreen_62 : decode cX5_bestScreen 62 = .ok (.istore 6, 2) := by decide +kernel
theorem dX5_bestScreen_64 : decode cX5_bestScreen 64 = .ok (.iload 6, 2) := by decide +kernel
theorem dX5_bestScreen_66 : decode cX5_bestScreen 66 = .ok (.iload 4, 2) := by decide +kernel
theorem dX5_bestScreen_68 : decode cX5_bestScreen 68 = .ok (.if_icmp .le 8, 3) := by decide +kernel
theorem dX5_bestScreen_71 : decode cX5_bestScreen 71 = .ok (.iload 5, 2) := by decide +kernel
theorem dX5_bestScreen_73 : decode cX5_bestScreen 73 = .ok (.goto 4, 3) := by decide +kernel
theorem dX5_bestScreen_76 : decode cX5_bestScreen 76 = .ok (.iload_n 3, 1) := by decide +kernel
theorem dX5_bestScreen_77 : decode cX5_bestScreen 77 = .ok (.istore_n 3, 1) := by decide +kernel
theorem dX5_bestScreen_78 : decode cX5_bestScreen 78 = .ok (.iload 6, 2) := by decide +kernel
theorem dX5_bestScreen_80 : decode cX5_bestScreen 80 = .ok (.iload 4, 2) := by decide +kernel
theorem dX5_bestScreen_82 : decode cX5_bestScreen 82 = .ok (.if_icmp .le 8, 3) := by decide +kernel
theorem dX5_bestScreen_85 : decode cX5_bestScreen 85 = .ok (.iload 6, 2) := by decide +kernel
theorem dX5_bestScreen_87 : decode cX5_bestScreen 87 = .ok (.goto 5, 3) := by decide +kernel
theorem dX5_bestScreen_90 : decode cX5_bestScreen 90 = .ok (.iload 4, 2) := by decide +kernel
theorem dX5_bestScreen_92 : decode cX5_bestScreen 92 = .ok (.istore 4, 2) := by decide +kernel
theorem dX5_bestScreen_94 : decode cX5_bestScreen 94 = .ok (.iinc 5 1, 3) := by decide +kernel
theorem dX5_bestScreen_97 : decode cX5_bestScreen 97 = .ok (.goto (-68), 3) := by decide +kernel
theorem dX5_bestScreen_100 : decode cX5_bestScreen 100 = .ok (.aload_n 0, 1) := by decide +kernel
theorem dX5_bestScreen_101 : decode cX5_bestScreen 101 = .ok (.getfield 7, 3) := by decide +kernel
theorem dX5_bestScreen_104 : decode cX5_bestScreen 104 = .ok (.bipush 6, 2) := by decide +kernel
theorem dX5_bestScreen_106 : decode cX5_bestScreen 106 = .ok (.iload_n 2, 1) := by decide +kernel
theorem dX5_bestScreen_107 : decode cX5_bestScreen 107 = .ok (.iastore, 1) := by decide +kernel
theorem dX5_bestScreen_108 : decode cX5_bestScreen 108 = .ok (.iload_n 1, 1) := by decide +kernel
theorem dX5_bestScreen_109 : decode cX5_bestScreen 109 = .ok (.ifCond .ne 7, 3) := by decide +kernel
theorem dX5_bestScreen_112 : decode cX5_bestScreen 112 = .ok (.iload_n 3, 1) := by decide +kernel
theorem dX5_bestScreen_113 : decode cX5_bestScreen 113 = .ok (.goto 5, 3) := by decide +kernel
theorem dX5_bestScreen_116 : decode cX5_bestScreen 116 = .ok (.iload 4, 2) := by decide +kernel
theorem dX5_bestScreen_118 : decode cX5_bestScreen 118 = .ok (.ireturn, 1) := by decide +kernel
set_option maxRecDepth 20000 in
theorem ggX5_leastNear_X5_isPixel : GoodIn wsX5_leastNear wsX5_isPixel := goodIn_r _ [5, 6, 7, 8, 4, 9] (by decide +kernel) (by decide +kernel)
set_option maxRecDepth 20000 in
theorem gX5_leastNear_X5_isPixel : GoodIn wsX5_leastNear (va_wsS RX5 132 yX5_isPixel wsX5_isPixel) := goodIn_app (goodIn_of _ (by decide +kernel)) ggX5_leastNear_X5_isPixel
set_option maxRecDepth 20000 in
theorem ggX5_leastNear_X5_distanceOf : GoodIn wsX5_leastNear wsX5_distanceOf := goodIn_r _ [12, 13, 14, 4, 15, 16, 17, 18] (by decide +kernel) (by decide +kernel)
set_option maxRecDepth 20000 in
theorem gX5_leastNear_X5_distanceOf : GoodIn wsX5_leastNear (va_wsS RX5 87 yX5_distanceOf wsX5_distanceOf) := goodIn_app (goodIn_of _ (by decide +kernel)) ggX5_leastNear_X5_distanceOf
theorem dX5_leastNear_0 : decode cX5_leastNear 0 = .ok (.iload_n 1, 1) := by decide +kernel
theorem dX5_leastNear_1 : decode cX5_leastNear 1 = .ok (.invokestatic 132, 3) := by decide +kernel
theorem dX5_leastNear_4 : decode cX5_leastNear 4 = .ok (.ifCond .ne 5, 3) := by decide +kernel
theorem dX5_leastNear_7 : decode cX5_leastNear 7 = .ok (.iconst (-1), 1) := by decide +kernel
theorem dX5_leastNear_8 : decode cX5_leastNear 8 = .ok (.ireturn, 1) := by decide +kernel
theorem dX5_leastNear_9 : decode cX5_leastNear 9 = .ok (.aload_n 0, 1) := by decide +kernel
theorem dX5_leastNear_10 : decode cX5_leastNear 10 = .ok (.getfield 7, 3) := by decide +kernel
theorem dX5_leastNear_13 : decode cX5_leastNear 13 = .ok (.bipush 7, 2) := by decide +kernel
theorem dX5_leastNear_15 : decode cX5_leastNear 15 = .ok (.iload_n 1, 1) := by decide +kernel
theorem dX5_leastNear_16 : decode cX5_leastNear 16 = .ok (.iadd, 1) := by decide +kernel
theorem dX5_leastNear_17 : decode cX5_leastNear 17 = .ok (.iaload, 1) := by decide +kernel
theorem dX5_leastNear_18 : decode cX5_leastNear 18 = .ok (.aload_n 0, 1) := by decide +kernel
theorem dX5_leastNear_19 : decode cX5_leastNear 19 = .ok (.getfield 7, 3) := by decide +kernel
theorem dX5_leastNear_22 : decode cX5_leastNear 22 = .ok (.bipush 6, 2) := by decide +kernel
theorem dX5_leastNear_24 : decode cX5_leastNear 24 = .ok (.iaload, 1) := by decide +kernel
theorem dX5_leastNear_25 : decode cX5_leastNear 25 = .ok (.invokestatic 87, 3) := by decide +kernel
theorem dX5_leastNear_28 : decode cX5_leastNear 28 = .ok (.istore_n 2, 1) := by decide +kernel
theorem dX5_leastNear_29 : decode cX5_leastNear 29 = .ok (.iload_n 2, 1) := by decide +kernel
theorem dX5_leastNear_30 : decode cX5_leastNear 30 = .ok (.aload_n 0, 1) := by decide +kernel
theorem dX5_leastNear_31 : decode cX5_leastNear 31 = .ok (.getfield 7, 3) := by decide +kernel
theorem dX5_leastNear_34 : decode cX5_leastNear 34 = .ok (.iconst 1, 1) := by decide +kernel
theorem dX5_leastNear_35 : decode cX5_leastNear 35 = .ok (.iaload, 1) := by decide +kernel
theorem dX5_leastNear_36 : decode cX5_leastNear 36 = .ok (.if_icmp .ge 7, 3) := by decide +kernel
theorem dX5_leastNear_39 : decode cX5_leastNear 39 = .ok (.iload_n 2, 1) := by decide +kernel
theorem dX5_leastNear_40 : decode cX5_leastNear 40 = .ok (.goto 5, 3) := by decide +kernel
theorem dX5_leastNear_43 : decode cX5_leastNear 43 = .ok (.bipush (-6), 2) := by decide +kernel
theorem dX5_leastNear_45 : decode cX5_leastNear 45 = .ok (.ireturn, 1) := by decide +kernel
set_option maxRecDepth 20000 in
theorem ggX5_ifSet_X5_isSetting : GoodIn wsX5_ifSet wsX5_isSetting := goodIn_r _ [7, 8, 9, 10, 11, 6, 12] (by decide +kernel) (by decide +kernel)
set_option maxRecDepth 20000 in
theorem gX5_ifSet_X5_isSetting : GoodIn wsX5_ifSet (va_wsS RX5 116 yX5_isSetting wsX5_isSetting) := goodIn_app (goodIn_of _ (by decide +kernel)) ggX5_ifSet_X5_isSetting
set_option maxRecDepth 20000 in
theorem ggX5_ifSet_X5_isOrdered : GoodIn wsX5_ifSet wsX5_isOrdered := goodIn_r _ [16, 3, 80, 81, 82, 83, 84, 85, 86, 87, 88, 89, 90, 91, 92, 93, 94, 95, 96] (by decide +kernel) (by decide +kernel)
set_option maxRecDepth 20000 in
theorem gX5_ifSet_X5_isOrdered : GoodIn wsX5_ifSet (wsV RX5 119 RX5 yX5_isOrdered wsX5_isOrdered) := goodIn_app (goodIn_of _ (by decide +kernel)) ggX5_ifSet_X5_isOrdered
set_option maxRecDepth 20000 in
theorem ggX5_ifSet_X5_works : GoodIn wsX5_ifSet wsX5_works := goodIn_r _ [20, 21, 3, 22, 23, 24, 25, 2, 26, 27, 28, 6, 29, 30, 31, 32, 33, 34, 35, 36, 37, 38, 39, 40, 41, 42, 43, 44, 45, 46, 47, 48, 49, 50, 51, 52, 53, 54, 10, 11, 12, 55, 56, 57, 58, 59, 60, 61, 62, 63, 64, 65, 66, 67, 68, 69, 70, 71, 72, 73, 74, 75, 76, 77, 78, 79, 80, 81, 82, 83, 84, 85, 86, 87, 88, 89, 90, 91, 92, 93, 94, 95, 96] (by decide +kernel) (by decide +kernel)
set_option maxRecDepth 20000 in
theorem gX5_ifSet_X5_works : GoodIn wsX5_ifSet (wsV RX5 146 RX5 yX5_works wsX5_works) := goodIn_app (goodIn_of _ (by decide +kernel)) ggX5_ifSet_X5_works
theorem dX5_ifSet_0 : decode cX5_ifSet 0 = .ok (.iload_n 1, 1) := by decide +kernel
theorem dX5_ifSet_1 : decode cX5_ifSet 1 = .ok (.iload_n 2, 1) := by decide +kernel
theorem dX5_ifSet_2 : decode cX5_ifSet 2 = .ok (.invokestatic 116, 3) := by decide +kernel
theorem dX5_ifSet_5 : decode cX5_ifSet 5 = .ok (.ifCond .ne 6, 3) := by decide +kernel
theorem dX5_ifSet_8 : decode cX5_ifSet 8 = .ok (.bipush (-2), 2) := by decide +kernel
theorem dX5_ifSet_10 : decode cX5_ifSet 10 = .ok (.ireturn, 1) := by decide +kernel
theorem dX5_ifSet_11 : decode cX5_ifSet 11 = .ok (.aload_n 0, 1) := by decide +kernel
theorem dX5_ifSet_12 : decode cX5_ifSet 12 = .ok (.iload_n 1, 1) := by decide +kernel
theorem dX5_ifSet_13 : decode cX5_ifSet 13 = .ok (.iload_n 2, 1) := by decide +kernel
theorem dX5_ifSet_14 : decode cX5_ifSet 14 = .ok (.invokevirtual 119, 3) := by decide +kernel
theorem dX5_ifSet_17 : decode cX5_ifSet 17 = .ok (.ifCond .ne 6, 3) := by decide +kernel
theorem dX5_ifSet_20 : decode cX5_ifSet 20 = .ok (.bipush (-5), 2) := by decide +kernel
theorem dX5_ifSet_22 : decode cX5_ifSet 22 = .ok (.ireturn, 1) := by decide +kernel
theorem dX5_ifSet_23 : decode cX5_ifSet 23 = .ok (.aload_n 0, 1) := by decide +kernel
theorem dX5_ifSet_24 : decode cX5_ifSet 24 = .ok (.invokevirtual 146, 3) := by decide +kernel
theorem dX5_ifSet_27 : decode cX5_ifSet 27 = .ok (.iconst 0, 1) := by decide +kernel
theorem dX5_ifSet_28 : decode cX5_ifSet 28 = .ok (.istore_n 3, 1) := by decide +kernel
theorem dX5_ifSet_29 : decode cX5_ifSet 29 = .ok (.iload_n 3, 1) := by decide +kernel
theorem dX5_ifSet_30 : decode cX5_ifSet 30 = .ok (.bipush 48, 2) := by decide +kernel
theorem dX5_ifSet_32 : decode cX5_ifSet 32 = .ok (.if_icmp .ge 21, 3) := by decide +kernel
theorem dX5_ifSet_35 : decode cX5_ifSet 35 = .ok (.aload_n 0, 1) := by decide +kernel
theorem dX5_ifSet_36 : decode cX5_ifSet 36 = .ok (.getfield 40, 3) := by decide +kernel
theorem dX5_ifSet_39 : decode cX5_ifSet 39 = .ok (.iload_n 3, 1) := by decide +kernel
theorem dX5_ifSet_40 : decode cX5_ifSet 40 = .ok (.aload_n 0, 1) := by decide +kernel
theorem dX5_ifSet_41 : decode cX5_ifSet 41 = .ok (.getfield 34, 3) := by decide +kernel
theorem dX5_ifSet_44 : decode cX5_ifSet 44 = .ok (.iload_n 3, 1) := by decide +kernel
theorem dX5_ifSet_45 : decode cX5_ifSet 45 = .ok (.iaload, 1) := by decide +kernel
theorem dX5_ifSet_46 : decode cX5_ifSet 46 = .ok (.iastore, 1) := by decide +kernel
theorem dX5_ifSet_47 : decode cX5_ifSet 47 = .ok (.iinc 3 1, 3) := by decide +kernel
theorem dX5_ifSet_50 : decode cX5_ifSet 50 = .ok (.goto (-21), 3) := by decide +kernel
theorem dX5_ifSet_53 : decode cX5_ifSet 53 = .ok (.aload_n 0, 1) := by decide +kernel
theorem dX5_ifSet_54 : decode cX5_ifSet 54 = .ok (.getfield 7, 3) := by decide +kernel
theorem dX5_ifSet_57 : decode cX5_ifSet 57 = .ok (.iload_n 1, 1) := by decide +kernel
theorem dX5_ifSet_58 : decode cX5_ifSet 58 = .ok (.iaload, 1) := by decide +kernel
theorem dX5_ifSet_59 : decode cX5_ifSet 59 = .ok (.istore_n 3, 1) := by decide +kernel
theorem dX5_ifSet_60 : decode cX5_ifSet 60 = .ok (.aload_n 0, 1) := by decide +kernel
theorem dX5_ifSet_61 : decode cX5_ifSet 61 = .ok (.getfield 7, 3) := by decide +kernel
theorem dX5_ifSet_64 : decode cX5_ifSet 64 = .ok (.iload_n 1, 1) := by decide +kernel
theorem dX5_ifSet_65 : decode cX5_ifSet 65 = .ok (.iload_n 2, 1) := by decide +kernel
theorem dX5_ifSet_66 : decode cX5_ifSet 66 = .ok (.iastore, 1) := by decide +kernel
theorem dX5_ifSet_67 : decode cX5_ifSet 67 = .ok (.aload_n 0, 1) := by decide +kernel
theorem dX5_ifSet_68 : decode cX5_ifSet 68 = .ok (.invokevirtual 146, 3) := by decide +kernel
theorem dX5_ifSet_71 : decode cX5_ifSet 71 = .ok (.aload_n 0, 1) := by decide +kernel
theorem dX5_ifSet_72 : decode cX5_ifSet 72 = .ok (.getfield 7, 3) := by decide +kernel
theorem dX5_ifSet_75 : decode cX5_ifSet 75 = .ok (.iload_n 1, 1) := by decide +kernel
theorem dX5_ifSet_76 : decode cX5_ifSet 76 = .ok (.iload_n 3, 1) := by decide +kernel
theorem dX5_ifSet_77 : decode cX5_ifSet 77 = .ok (.iastore, 1) := by decide +kernel
theorem dX5_ifSet_78 : decode cX5_ifSet 78 = .ok (.iconst 0, 1) := by decide +kernel
theorem dX5_ifSet_79 : decode cX5_ifSet 79 = .ok (.istore 4, 2) := by decide +kernel
theorem dX5_ifSet_81 : decode cX5_ifSet 81 = .ok (.iconst 0, 1) := by decide +kernel
theorem dX5_ifSet_82 : decode cX5_ifSet 82 = .ok (.istore 5, 2) := by decide +kernel
theorem dX5_ifSet_84 : decode cX5_ifSet 84 = .ok (.iload 5, 2) := by decide +kernel
theorem dX5_ifSet_86 : decode cX5_ifSet 86 = .ok (.bipush 48, 2) := by decide +kernel
theorem dX5_ifSet_88 : decode cX5_ifSet 88 = .ok (.if_icmp .ge 36, 3) := by decide +kernel
theorem dX5_ifSet_91 : decode cX5_ifSet 91 = .ok (.iload 4, 2) := by decide +kernel
theorem dX5_ifSet_93 : decode cX5_ifSet 93 = .ok (.aload_n 0, 1) := by decide +kernel
theorem dX5_ifSet_94 : decode cX5_ifSet 94 = .ok (.getfield 40, 3) := by decide +kernel
theorem dX5_ifSet_97 : decode cX5_ifSet 97 = .ok (.iload 5, 2) := by decide +kernel
theorem dX5_ifSet_99 : decode cX5_ifSet 99 = .ok (.iaload, 1) := by decide +kernel
theorem dX5_ifSet_100 : decode cX5_ifSet 100 = .ok (.aload_n 0, 1) := by decide +kernel
theorem dX5_ifSet_101 : decode cX5_ifSet 101 = .ok (.getfield 34, 3) := by decide +kernel
theorem dX5_ifSet_104 : decode cX5_ifSet 104 = .ok (.iload 5, 2) := by decide +kernel
theorem dX5_ifSet_106 : decode cX5_ifSet 106 = .ok (.iaload, 1) := by decide +kernel
theorem dX5_ifSet_107 : decode cX5_ifSet 107 = .ok (.if_icmp .ne 7, 3) := by decide +kernel
theorem dX5_ifSet_110 : decode cX5_ifSet 110 = .ok (.iconst 0, 1) := by decide +kernel
theorem dX5_ifSet_111 : decode cX5_ifSet 111 = .ok (.goto 4, 3) := by decide +kernel
theorem dX5_ifSet_114 : decode cX5_ifSet 114 = .ok (.iconst 1, 1) := by decide +kernel
theorem dX5_ifSet_115 : decode cX5_ifSet 115 = .ok (.iadd, 1) := by decide +kernel
theorem dX5_ifSet_116 : decode cX5_ifSet 116 = .ok (.istore 4, 2) := by decide +kernel
theorem dX5_ifSet_118 : decode cX5_ifSet 118 = .ok (.iinc 5 1, 3) := by decide +kernel
theorem dX5_ifSet_121 : decode cX5_ifSet 121 = .ok (.goto (-37), 3) := by decide +kernel
theorem dX5_ifSet_124 : decode cX5_ifSet 124 = .ok (.iload 4, 2) := by decide +kernel
theorem dX5_ifSet_126 : decode cX5_ifSet 126 = .ok (.ireturn, 1) := by decide +kernel
set_option maxRecDepth 20000 in
theorem ggX5_spillLeft_X5_mainPart : GoodIn wsX5_spillLeft wsX5_mainPart := goodIn_r _ [6, 7, 8, 9, 5, 10, 17, 18, 19, 20, 21, 22, 23, 24, 25, 26, 27, 28, 29, 30, 31, 32, 33] (by decide +kernel) (by decide +kernel)
set_option maxRecDepth 20000 in
theorem gX5_spillLeft_X5_mainPart : GoodIn wsX5_spillLeft (wsV RX5 83 RX5 yX5_mainPart wsX5_mainPart) := goodIn_app (goodIn_of _ (by decide +kernel)) ggX5_spillLeft_X5_mainPart
set_option maxRecDepth 20000 in
theorem ggX5_spillLeft_X5_spillOf : GoodIn wsX5_spillLeft wsX5_spillOf := goodIn_r _ [13, 8, 9, 5, 10, 14, 15, 16] (by decide +kernel) (by decide +kernel)
set_option maxRecDepth 20000 in
theorem gX5_spillLeft_X5_spillOf : GoodIn wsX5_spillLeft (va_wsS RX5 99 yX5_spillOf wsX5_spillOf) := goodIn_app (goodIn_of _ (by decide +kernel)) ggX5_spillLeft_X5_spillOf
theorem dX5_spillLeft_0 : decode cX5_spillLeft 0 = .ok (.aload_n 0, 1) := by decide +kernel
theorem dX5_spillLeft_1 : decode cX5_spillLeft 1 = .ok (.invokevirtual 83, 3) := by decide +kernel
theorem dX5_spillLeft_4 : decode cX5_spillLeft 4 = .ok (.istore_n 1, 1) := by decide +kernel
theorem dX5_spillLeft_5 : decode cX5_spillLeft 5 = .ok (.iconst 0, 1) := by decide +kernel
theorem dX5_spillLeft_6 : decode cX5_spillLeft 6 = .ok (.istore_n 2, 1) := by decide +kernel
theorem dX5_spillLeft_7 : decode cX5_spillLeft 7 = .ok (.iconst 0, 1) := by decide +kernel
theorem dX5_spillLeft_8 : decode cX5_spillLeft 8 = .ok (.istore_n 3, 1) := by decide +kernel
theorem dX5_spillLeft_9 : decode cX5_spillLeft 9 = .ok (.iload_n 3, 1) := by decide +kernel
theorem dX5_spillLeft_10 : decode cX5_spillLeft 10 = .ok (.bipush 48, 2) := by decide +kernel
theorem dX5_spillLeft_12 : decode cX5_spillLeft 12 = .ok (.if_icmp .ge 22, 3) := by decide +kernel
theorem dX5_spillLeft_15 : decode cX5_spillLeft 15 = .ok (.iload_n 2, 1) := by decide +kernel
theorem dX5_spillLeft_16 : decode cX5_spillLeft 16 = .ok (.aload_n 0, 1) := by decide +kernel
theorem dX5_spillLeft_17 : decode cX5_spillLeft 17 = .ok (.getfield 34, 3) := by decide +kernel
theorem dX5_spillLeft_20 : decode cX5_spillLeft 20 = .ok (.iload_n 3, 1) := by decide +kernel
theorem dX5_spillLeft_21 : decode cX5_spillLeft 21 = .ok (.iaload, 1) := by decide +kernel
theorem dX5_spillLeft_22 : decode cX5_spillLeft 22 = .ok (.iload_n 1, 1) := by decide +kernel
theorem dX5_spillLeft_23 : decode cX5_spillLeft 23 = .ok (.invokestatic 99, 3) := by decide +kernel
theorem dX5_spillLeft_26 : decode cX5_spillLeft 26 = .ok (.iadd, 1) := by decide +kernel
theorem dX5_spillLeft_27 : decode cX5_spillLeft 27 = .ok (.istore_n 2, 1) := by decide +kernel
theorem dX5_spillLeft_28 : decode cX5_spillLeft 28 = .ok (.iinc 3 1, 3) := by decide +kernel
theorem dX5_spillLeft_31 : decode cX5_spillLeft 31 = .ok (.goto (-22), 3) := by decide +kernel
theorem dX5_spillLeft_34 : decode cX5_spillLeft 34 = .ok (.iload_n 2, 1) := by decide +kernel
theorem dX5_spillLeft_35 : decode cX5_spillLeft 35 = .ok (.ireturn, 1) := by decide +kernel
set_option maxRecDepth 20000 in
theorem ggX5_bestShare_X5_in : GoodIn wsX5_bestShare wsX5_in := goodIn_r _ [7] (by decide +kernel) (by decide +kernel)
set_option maxRecDepth 20000 in
theorem gX5_bestShare_X5_in : GoodIn wsX5_bestShare (va_wsS RX5 66 yX5_in wsX5_in) := goodIn_app (goodIn_of _ (by decide +kernel)) ggX5_bestShare_X5_in
set_option maxRecDepth 20000 in
theorem ggX5_bestShare_X5_works : GoodIn wsX5_bestShare wsX5_works := goodIn_r _ [11, 12, 3, 13, 14, 15, 16, 17, 18, 19, 20, 6, 21, 22, 23, 24, 25, 26, 27, 28, 29, 30, 31, 32, 33, 34, 35, 36, 37, 38, 39, 40, 41, 42, 43, 44, 45, 46, 4, 5, 7, 47, 48, 49, 50, 51, 52, 53, 54, 55, 56, 57, 58, 59, 60, 61, 62, 63, 64, 65, 66, 67, 68, 69, 70, 71, 76, 77, 78, 79, 80, 81, 82, 83, 84, 85, 86, 87, 88, 89, 90, 91, 92] (by decide +kernel) (by decide +kernel)
set_option maxRecDepth 20000 in
theorem gX5_bestShare_X5_works : GoodIn wsX5_bestShare (wsV RX5 146 RX5 yX5_works wsX5_works) := goodIn_app (goodIn_of _ (by decide +kernel)) ggX5_bestShare_X5_works
set_option maxRecDepth 20000 in
theorem ggX5_bestShare_X5_spillLeft : GoodIn wsX5_bestShare wsX5_spillLeft := goodIn_r _ [75, 17, 18, 19, 20, 6, 21, 3, 22, 23, 24, 55, 56, 57, 58, 59, 60, 76, 77, 78, 79, 80, 81, 82, 83, 84, 85, 86, 87, 88, 89, 90, 91, 92] (by decide +kernel) (by decide +kernel)
set_option maxRecDepth 20000 in
theorem gX5_bestShare_X5_spillLeft : GoodIn wsX5_bestShare (wsV RX5 170 RX5 yX5_spillLeft wsX5_spillLeft) := goodIn_app (goodIn_of _ (by decide +kernel)) ggX5_bestShare_X5_spillLeft
theorem dX5_bestShare_0 : decode cX5_bestShare 0 = .ok (.iload_n 1, 1) := by decide +kernel
theorem dX5_bestShare_1 : decode cX5_bestShare 1 = .ok (.i2l, 1) := by decide +kernel
theorem dX5_bestShare_2 : decode cX5_bestShare 2 = .ok (.ldc2_w 168, 3) := by decide +kernel
theorem dX5_bestShare_5 : decode cX5_bestShare 5 = .ok (.ldc2_w 166, 3) := by decide +kernel
theorem dX5_bestShare_8 : decode cX5_bestShare 8 = .ok (.invokestatic 66, 3) := by decide +kernel
theorem dX5_bestShare_11 : decode cX5_bestShare 11 = .ok (.ifCond .eq 13, 3) := by decide +kernel
theorem dX5_bestShare_14 : decode cX5_bestShare 14 = .ok (.iload_n 2, 1) := by decide +kernel
theorem dX5_bestShare_15 : decode cX5_bestShare 15 = .ok (.i2l, 1) := by decide +kernel
theorem dX5_bestShare_16 : decode cX5_bestShare 16 = .ok (.lconst 0, 1) := by decide +kernel
theorem dX5_bestShare_17 : decode cX5_bestShare 17 = .ok (.lconst 1, 1) := by decide +kernel
theorem dX5_bestShare_18 : decode cX5_bestShare 18 = .ok (.invokestatic 66, 3) := by decide +kernel
theorem dX5_bestShare_21 : decode cX5_bestShare 21 = .ok (.ifCond .ne 6, 3) := by decide +kernel
theorem dX5_bestShare_24 : decode cX5_bestShare 24 = .ok (.bipush (-2), 2) := by decide +kernel
theorem dX5_bestShare_26 : decode cX5_bestShare 26 = .ok (.ireturn, 1) := by decide +kernel
theorem dX5_bestShare_27 : decode cX5_bestShare 27 = .ok (.aload_n 0, 1) := by decide +kernel
theorem dX5_bestShare_28 : decode cX5_bestShare 28 = .ok (.getfield 7, 3) := by decide +kernel
theorem dX5_bestShare_31 : decode cX5_bestShare 31 = .ok (.iload_n 1, 1) := by decide +kernel
theorem dX5_bestShare_32 : decode cX5_bestShare 32 = .ok (.iaload, 1) := by decide +kernel
theorem dX5_bestShare_33 : decode cX5_bestShare 33 = .ok (.istore_n 3, 1) := by decide +kernel
theorem dX5_bestShare_34 : decode cX5_bestShare 34 = .ok (.iconst 0, 1) := by decide +kernel
theorem dX5_bestShare_35 : decode cX5_bestShare 35 = .ok (.istore 4, 2) := by decide +kernel
theorem dX5_bestShare_37 : decode cX5_bestShare 37 = .ok (.iconst (-1), 1) := by decide +kernel
theorem dX5_bestShare_38 : decode cX5_bestShare 38 = .ok (.istore 5, 2) := by decide +kernel
theorem dX5_bestShare_40 : decode cX5_bestShare 40 = .ok (.iconst 0, 1) := by decide +kernel
theorem dX5_bestShare_41 : decode cX5_bestShare 41 = .ok (.istore 6, 2) := by decide +kernel
theorem dX5_bestShare_43 : decode cX5_bestShare 43 = .ok (.iload 6, 2) := by decide +kernel
theorem dX5_bestShare_45 : decode cX5_bestShare 45 = .ok (.bipush 16, 2) := by decide +kernel
theorem dX5_bestShare_47 : decode cX5_bestShare 47 = .ok (.if_icmp .gt 74, 3) := by decide +kernel
theorem dX5_bestShare_50 : decode cX5_bestShare 50 = .ok (.aload_n 0, 1) := by decide +kernel
theorem dX5_bestShare_51 : decode cX5_bestShare 51 = .ok (.getfield 7, 3) := by decide +kernel
theorem dX5_bestShare_54 : decode cX5_bestShare 54 = .ok (.iload_n 1, 1) := by decide +kernel
theorem dX5_bestShare_55 : decode cX5_bestShare 55 = .ok (.iload 6, 2) := by decide +kernel
theorem dX5_bestShare_57 : decode cX5_bestShare 57 = .ok (.iastore, 1) := by decide +kernel
theorem dX5_bestShare_58 : decode cX5_bestShare 58 = .ok (.aload_n 0, 1) := by decide +kernel
theorem dX5_bestShare_59 : decode cX5_bestShare 59 = .ok (.invokevirtual 146, 3) := by decide +kernel
theorem dX5_bestShare_62 : decode cX5_bestShare 62 = .ok (.aload_n 0, 1) := by decide +kernel
theorem dX5_bestShare_63 : decode cX5_bestShare 63 = .ok (.invokevirtual 170, 3) := by decide +kernel
theorem dX5_bestShare_66 : decode cX5_bestShare 66 = .ok (.istore 7, 2) := by decide +kernel
theorem dX5_bestShare_68 : decode cX5_bestShare 68 = .ok (.iload 5, 2) := by decide +kernel
theorem dX5_bestShare_70 : decode cX5_bestShare 70 = .ok (.ifCond .lt 10, 3) := by decide +kernel
theorem dX5_bestShare_73 : decode cX5_bestShare 73 = .ok (.iload 7, 2) := by decide +kernel
theorem dX5_bestShare_75 : decode cX5_bestShare 75 = .ok (.iload 5, 2) := by decide +kernel
theorem dX5_bestShare_77 : decode cX5_bestShare 77 = .ok (.if_icmp .ge 7, 3) := by decide +kernel
theorem dX5_bestShare_80 : decode cX5_bestShare 80 = .ok (.iconst 1, 1) := by decide +kernel
theorem dX5_bestShare_81 : decode cX5_bestShare 81 = .ok (.goto 4, 3) := by decide +kernel
theorem dX5_bestShare_84 : decode cX5_bestShare 84 = .ok (.iconst 0, 1) := by decide +kernel
theorem dX5_bestShare_85 : decode cX5_bestShare 85 = .ok (.istore 8, 2) := by decide +kernel
theorem dX5_bestShare_87 : decode cX5_bestShare 87 = .ok (.iload 8, 2) := by decide +kernel
theorem dX5_bestShare_89 : decode cX5_bestShare 89 = .ok (.ifCond .eq 8, 3) := by decide +kernel
theorem dX5_bestShare_92 : decode cX5_bestShare 92 = .ok (.iload 6, 2) := by decide +kernel
theorem dX5_bestShare_94 : decode cX5_bestShare 94 = .ok (.goto 5, 3) := by decide +kernel
theorem dX5_bestShare_97 : decode cX5_bestShare 97 = .ok (.iload 4, 2) := by decide +kernel
theorem dX5_bestShare_99 : decode cX5_bestShare 99 = .ok (.istore 4, 2) := by decide +kernel
theorem dX5_bestShare_101 : decode cX5_bestShare 101 = .ok (.iload 8, 2) := by decide +kernel
theorem dX5_bestShare_103 : decode cX5_bestShare 103 = .ok (.ifCond .eq 8, 3) := by decide +kernel
theorem dX5_bestShare_106 : decode cX5_bestShare 106 = .ok (.iload 7, 2) := by decide +kernel
theorem dX5_bestShare_108 : decode cX5_bestShare 108 = .ok (.goto 5, 3) := by decide +kernel
theorem dX5_bestShare_111 : decode cX5_bestShare 111 = .ok (.iload 5, 2) := by decide +kernel
theorem dX5_bestShare_113 : decode cX5_bestShare 113 = .ok (.istore 5, 2) := by decide +kernel
theorem dX5_bestShare_115 : decode cX5_bestShare 115 = .ok (.iinc 6 1, 3) := by decide +kernel
theorem dX5_bestShare_118 : decode cX5_bestShare 118 = .ok (.goto (-75), 3) := by decide +kernel
theorem dX5_bestShare_121 : decode cX5_bestShare 121 = .ok (.aload_n 0, 1) := by decide +kernel
theorem dX5_bestShare_122 : decode cX5_bestShare 122 = .ok (.getfield 7, 3) := by decide +kernel
theorem dX5_bestShare_125 : decode cX5_bestShare 125 = .ok (.iload_n 1, 1) := by decide +kernel
theorem dX5_bestShare_126 : decode cX5_bestShare 126 = .ok (.iload_n 3, 1) := by decide +kernel
theorem dX5_bestShare_127 : decode cX5_bestShare 127 = .ok (.iastore, 1) := by decide +kernel
theorem dX5_bestShare_128 : decode cX5_bestShare 128 = .ok (.iload_n 2, 1) := by decide +kernel
theorem dX5_bestShare_129 : decode cX5_bestShare 129 = .ok (.ifCond .ne 8, 3) := by decide +kernel
theorem dX5_bestShare_132 : decode cX5_bestShare 132 = .ok (.iload 4, 2) := by decide +kernel
theorem dX5_bestShare_134 : decode cX5_bestShare 134 = .ok (.goto 5, 3) := by decide +kernel
theorem dX5_bestShare_137 : decode cX5_bestShare 137 = .ok (.iload 5, 2) := by decide +kernel
theorem dX5_bestShare_139 : decode cX5_bestShare 139 = .ok (.ireturn, 1) := by decide +kernel
set_option maxRecDepth 20000 in
theorem ggX5_charactersOf_X5_in : GoodIn wsX5_charactersOf wsX5_in := goodIn_r _ [7] (by decide +kernel) (by decide +kernel)
set_option maxRecDepth 20000 in
theorem gX5_charactersOf_X5_in : GoodIn wsX5_charactersOf (va_wsS RX5 66 yX5_in wsX5_in) := goodIn_app (goodIn_of _ (by decide +kernel)) ggX5_charactersOf_X5_in
theorem dX5_charactersOf_0 : decode cX5_charactersOf 0 = .ok (.lload_n 0, 1) := by decide +kernel
theorem dX5_charactersOf_1 : decode cX5_charactersOf 1 = .ok (.lstore_n 2, 1) := by decide +kernel
theorem dX5_charactersOf_2 : decode cX5_charactersOf 2 = .ok (.iconst 0, 1) := by decide +kernel
theorem dX5_charactersOf_3 : decode cX5_charactersOf 3 = .ok (.istore 4, 2) := by decide +kernel
theorem dX5_charactersOf_5 : decode cX5_charactersOf 5 = .ok (.iload 4, 2) := by decide +kernel
theorem dX5_charactersOf_7 : decode cX5_charactersOf 7 = .ok (.bipush 8, 2) := by decide +kernel
theorem dX5_charactersOf_9 : decode cX5_charactersOf 9 = .ok (.if_icmp .ge 31, 3) := by decide +kernel
theorem dX5_charactersOf_12 : decode cX5_charactersOf 12 = .ok (.lload_n 2, 1) := by decide +kernel
theorem dX5_charactersOf_13 : decode cX5_charactersOf 13 = .ok (.ldc2_w 173, 3) := by decide +kernel
theorem dX5_charactersOf_16 : decode cX5_charactersOf 16 = .ok (.land, 1) := by decide +kernel
theorem dX5_charactersOf_17 : decode cX5_charactersOf 17 = .ok (.ldc2_w 175, 3) := by decide +kernel
theorem dX5_charactersOf_20 : decode cX5_charactersOf 20 = .ok (.ldc2_w 177, 3) := by decide +kernel
theorem dX5_charactersOf_23 : decode cX5_charactersOf 23 = .ok (.invokestatic 66, 3) := by decide +kernel
theorem dX5_charactersOf_26 : decode cX5_charactersOf 26 = .ok (.ifCond .eq 14, 3) := by decide +kernel
theorem dX5_charactersOf_29 : decode cX5_charactersOf 29 = .ok (.lload_n 2, 1) := by decide +kernel
theorem dX5_charactersOf_30 : decode cX5_charactersOf 30 = .ok (.bipush 8, 2) := by decide +kernel
theorem dX5_charactersOf_32 : decode cX5_charactersOf 32 = .ok (.lushr, 1) := by decide +kernel
theorem dX5_charactersOf_33 : decode cX5_charactersOf 33 = .ok (.lstore_n 2, 1) := by decide +kernel
theorem dX5_charactersOf_34 : decode cX5_charactersOf 34 = .ok (.iinc 4 1, 3) := by decide +kernel
theorem dX5_charactersOf_37 : decode cX5_charactersOf 37 = .ok (.goto (-32), 3) := by decide +kernel
theorem dX5_charactersOf_40 : decode cX5_charactersOf 40 = .ok (.lload_n 2, 1) := by decide +kernel
theorem dX5_charactersOf_41 : decode cX5_charactersOf 41 = .ok (.lconst 0, 1) := by decide +kernel
theorem dX5_charactersOf_42 : decode cX5_charactersOf 42 = .ok (.lcmp, 1) := by decide +kernel
theorem dX5_charactersOf_43 : decode cX5_charactersOf 43 = .ok (.ifCond .ne 8, 3) := by decide +kernel
theorem dX5_charactersOf_46 : decode cX5_charactersOf 46 = .ok (.iload 4, 2) := by decide +kernel
theorem dX5_charactersOf_48 : decode cX5_charactersOf 48 = .ok (.goto 4, 3) := by decide +kernel
theorem dX5_charactersOf_51 : decode cX5_charactersOf 51 = .ok (.iconst 0, 1) := by decide +kernel
theorem dX5_charactersOf_52 : decode cX5_charactersOf 52 = .ok (.ireturn, 1) := by decide +kernel
set_option maxRecDepth 20000 in
theorem ggX5_put_X5_charactersOf : GoodIn wsX5_put wsX5_charactersOf := goodIn_r _ [7, 3, 8, 9, 10, 11, 6, 12] (by decide +kernel) (by decide +kernel)
set_option maxRecDepth 20000 in
theorem gX5_put_X5_charactersOf : GoodIn wsX5_put (va_wsS RX5 179 yX5_charactersOf wsX5_charactersOf) := goodIn_app (goodIn_of _ (by decide +kernel)) ggX5_put_X5_charactersOf
theorem dX5_put_0 : decode cX5_put 0 = .ok (.lload_n 1, 1) := by decide +kernel
theorem dX5_put_1 : decode cX5_put 1 = .ok (.invokestatic 179, 3) := by decide +kernel
theorem dX5_put_4 : decode cX5_put 4 = .ok (.istore_n 3, 1) := by decide +kernel
theorem dX5_put_5 : decode cX5_put 5 = .ok (.iload_n 3, 1) := by decide +kernel
theorem dX5_put_6 : decode cX5_put 6 = .ok (.ifCond .ne 6, 3) := by decide +kernel
theorem dX5_put_9 : decode cX5_put 9 = .ok (.bipush (-2), 2) := by decide +kernel
theorem dX5_put_11 : decode cX5_put 11 = .ok (.ireturn, 1) := by decide +kernel
theorem dX5_put_12 : decode cX5_put 12 = .ok (.aload_n 0, 1) := by decide +kernel
theorem dX5_put_13 : decode cX5_put 13 = .ok (.getfield 163, 3) := by decide +kernel
theorem dX5_put_16 : decode cX5_put 16 = .ok (.iload_n 3, 1) := by decide +kernel
theorem dX5_put_17 : decode cX5_put 17 = .ok (.iadd, 1) := by decide +kernel
theorem dX5_put_18 : decode cX5_put 18 = .ok (.bipush 48, 2) := by decide +kernel
theorem dX5_put_20 : decode cX5_put 20 = .ok (.if_icmp .le 6, 3) := by decide +kernel
theorem dX5_put_23 : decode cX5_put 23 = .ok (.bipush (-4), 2) := by decide +kernel
theorem dX5_put_25 : decode cX5_put 25 = .ok (.ireturn, 1) := by decide +kernel
theorem dX5_put_26 : decode cX5_put 26 = .ok (.iconst 0, 1) := by decide +kernel
theorem dX5_put_27 : decode cX5_put 27 = .ok (.istore 4, 2) := by decide +kernel
theorem dX5_put_29 : decode cX5_put 29 = .ok (.iload 4, 2) := by decide +kernel
theorem dX5_put_31 : decode cX5_put 31 = .ok (.iload_n 3, 1) := by decide +kernel
theorem dX5_put_32 : decode cX5_put 32 = .ok (.if_icmp .ge 37, 3) := by decide +kernel
theorem dX5_put_35 : decode cX5_put 35 = .ok (.aload_n 0, 1) := by decide +kernel
theorem dX5_put_36 : decode cX5_put 36 = .ok (.getfield 43, 3) := by decide +kernel
theorem dX5_put_39 : decode cX5_put 39 = .ok (.aload_n 0, 1) := by decide +kernel
theorem dX5_put_40 : decode cX5_put 40 = .ok (.getfield 163, 3) := by decide +kernel
theorem dX5_put_43 : decode cX5_put 43 = .ok (.iload 4, 2) := by decide +kernel
theorem dX5_put_45 : decode cX5_put 45 = .ok (.iadd, 1) := by decide +kernel
theorem dX5_put_46 : decode cX5_put 46 = .ok (.lload_n 1, 1) := by decide +kernel
theorem dX5_put_47 : decode cX5_put 47 = .ok (.bipush 8, 2) := by decide +kernel
theorem dX5_put_49 : decode cX5_put 49 = .ok (.iload_n 3, 1) := by decide +kernel
theorem dX5_put_50 : decode cX5_put 50 = .ok (.iconst 1, 1) := by decide +kernel
theorem dX5_put_51 : decode cX5_put 51 = .ok (.isub, 1) := by decide +kernel
theorem dX5_put_52 : decode cX5_put 52 = .ok (.iload 4, 2) := by decide +kernel
theorem dX5_put_54 : decode cX5_put 54 = .ok (.isub, 1) := by decide +kernel
theorem dX5_put_55 : decode cX5_put 55 = .ok (.imul, 1) := by decide +kernel
theorem dX5_put_56 : decode cX5_put 56 = .ok (.lushr, 1) := by decide +kernel
theorem dX5_put_57 : decode cX5_put 57 = .ok (.ldc2_w 173, 3) := by decide +kernel
theorem dX5_put_60 : decode cX5_put 60 = .ok (.land, 1) := by decide +kernel
theorem dX5_put_61 : decode cX5_put 61 = .ok (.l2i, 1) := by decide +kernel
theorem dX5_put_62 : decode cX5_put 62 = .ok (.iastore, 1) := by decide +kernel
theorem dX5_put_63 : decode cX5_put 63 = .ok (.iinc 4 1, 3) := by decide +kernel
theorem dX5_put_66 : decode cX5_put 66 = .ok (.goto (-37), 3) := by decide +kernel
theorem dX5_put_69 : decode cX5_put 69 = .ok (.aload_n 0, 1) := by decide +kernel
theorem dX5_put_70 : decode cX5_put 70 = .ok (.dup, 1) := by decide +kernel
theorem dX5_put_71 : decode cX5_put 71 = .ok (.getfield 163, 3) := by decide +kernel
theorem dX5_put_74 : decode cX5_put 74 = .ok (.iload_n 3, 1) := by decide +kernel
theorem dX5_put_75 : decode cX5_put 75 = .ok (.iadd, 1) := by decide +kernel
theorem dX5_put_76 : decode cX5_put 76 = .ok (.putfield 163, 3) := by decide +kernel
theorem dX5_put_79 : decode cX5_put 79 = .ok (.aload_n 0, 1) := by decide +kernel
theorem dX5_put_80 : decode cX5_put 80 = .ok (.getfield 163, 3) := by decide +kernel
theorem dX5_put_83 : decode cX5_put 83 = .ok (.ireturn, 1) := by decide +kernel
theorem dX5_wipe_0 : decode cX5_wipe 0 = .ok (.aload_n 0, 1) := by decide +kernel
theorem dX5_wipe_1 : decode cX5_wipe 1 = .ok (.getfield 163, 3) := by decide +kernel
theorem dX5_wipe_4 : decode cX5_wipe 4 = .ok (.istore_n 1, 1) := by decide +kernel
theorem dX5_wipe_5 : decode cX5_wipe 5 = .ok (.aload_n 0, 1) := by decide +kernel
theorem dX5_wipe_6 : decode cX5_wipe 6 = .ok (.iconst 0, 1) := by decide +kernel
theorem dX5_wipe_7 : decode cX5_wipe 7 = .ok (.putfield 163, 3) := by decide +kernel
theorem dX5_wipe_10 : decode cX5_wipe 10 = .ok (.iload_n 1, 1) := by decide +kernel
theorem dX5_wipe_11 : decode cX5_wipe 11 = .ok (.ireturn, 1) := by decide +kernel
set_option maxRecDepth 20000 in
theorem ggX5_readsPart_X5_in : GoodIn wsX5_readsPart wsX5_in := goodIn_r _ [11] (by decide +kernel) (by decide +kernel)
set_option maxRecDepth 20000 in
theorem gX5_readsPart_X5_in : GoodIn wsX5_readsPart (va_wsS RX5 66 yX5_in wsX5_in) := goodIn_app (goodIn_of _ (by decide +kernel)) ggX5_readsPart_X5_in
theorem dX5_readsPart_0 : decode cX5_readsPart 0 = .ok (.aload_n 0, 1) := by decide +kernel
theorem dX5_readsPart_1 : decode cX5_readsPart 1 = .ok (.getfield 183, 3) := by decide +kernel
theorem dX5_readsPart_4 : decode cX5_readsPart 4 = .ok (.aload_n 0, 1) := by decide +kernel
theorem dX5_readsPart_5 : decode cX5_readsPart 5 = .ok (.getfield 163, 3) := by decide +kernel
theorem dX5_readsPart_8 : decode cX5_readsPart 8 = .ok (.if_icmp .ge 15, 3) := by decide +kernel
theorem dX5_readsPart_11 : decode cX5_readsPart 11 = .ok (.aload_n 0, 1) := by decide +kernel
theorem dX5_readsPart_12 : decode cX5_readsPart 12 = .ok (.getfield 43, 3) := by decide +kernel
theorem dX5_readsPart_15 : decode cX5_readsPart 15 = .ok (.aload_n 0, 1) := by decide +kernel
theorem dX5_readsPart_16 : decode cX5_readsPart 16 = .ok (.getfield 183, 3) := by decide +kernel
theorem dX5_readsPart_19 : decode cX5_readsPart 19 = .ok (.iaload, 1) := by decide +kernel
theorem dX5_readsPart_20 : decode cX5_readsPart 20 = .ok (.goto 4, 3) := by decide +kernel
theorem dX5_readsPart_23 : decode cX5_readsPart 23 = .ok (.iconst 0, 1) := by decide +kernel
theorem dX5_readsPart_24 : decode cX5_readsPart 24 = .ok (.istore_n 1, 1) := by decide +kernel
theorem dX5_readsPart_25 : decode cX5_readsPart 25 = .ok (.iload_n 1, 1) := by decide +kernel
theorem dX5_readsPart_26 : decode cX5_readsPart 26 = .ok (.i2l, 1) := by decide +kernel
theorem dX5_readsPart_27 : decode cX5_readsPart 27 = .ok (.ldc2_w 186, 3) := by decide +kernel
theorem dX5_readsPart_30 : decode cX5_readsPart 30 = .ok (.ldc2_w 188, 3) := by decide +kernel
theorem dX5_readsPart_33 : decode cX5_readsPart 33 = .ok (.invokestatic 66, 3) := by decide +kernel
theorem dX5_readsPart_36 : decode cX5_readsPart 36 = .ok (.ifCond .eq 10, 3) := by decide +kernel
theorem dX5_readsPart_39 : decode cX5_readsPart 39 = .ok (.iload_n 1, 1) := by decide +kernel
theorem dX5_readsPart_40 : decode cX5_readsPart 40 = .ok (.bipush 48, 2) := by decide +kernel
theorem dX5_readsPart_42 : decode cX5_readsPart 42 = .ok (.isub, 1) := by decide +kernel
theorem dX5_readsPart_43 : decode cX5_readsPart 43 = .ok (.goto 29, 3) := by decide +kernel
theorem dX5_readsPart_46 : decode cX5_readsPart 46 = .ok (.iload_n 1, 1) := by decide +kernel
theorem dX5_readsPart_47 : decode cX5_readsPart 47 = .ok (.i2l, 1) := by decide +kernel
theorem dX5_readsPart_48 : decode cX5_readsPart 48 = .ok (.ldc2_w 190, 3) := by decide +kernel
theorem dX5_readsPart_51 : decode cX5_readsPart 51 = .ok (.ldc2_w 192, 3) := by decide +kernel
theorem dX5_readsPart_54 : decode cX5_readsPart 54 = .ok (.invokestatic 66, 3) := by decide +kernel
theorem dX5_readsPart_57 : decode cX5_readsPart 57 = .ok (.ifCond .eq 13, 3) := by decide +kernel
theorem dX5_readsPart_60 : decode cX5_readsPart 60 = .ok (.iload_n 1, 1) := by decide +kernel
theorem dX5_readsPart_61 : decode cX5_readsPart 61 = .ok (.bipush 97, 2) := by decide +kernel
theorem dX5_readsPart_63 : decode cX5_readsPart 63 = .ok (.isub, 1) := by decide +kernel
theorem dX5_readsPart_64 : decode cX5_readsPart 64 = .ok (.bipush 10, 2) := by decide +kernel
theorem dX5_readsPart_66 : decode cX5_readsPart 66 = .ok (.iadd, 1) := by decide +kernel
theorem dX5_readsPart_67 : decode cX5_readsPart 67 = .ok (.goto 5, 3) := by decide +kernel
theorem dX5_readsPart_70 : decode cX5_readsPart 70 = .ok (.bipush (-6), 2) := by decide +kernel
theorem dX5_readsPart_72 : decode cX5_readsPart 72 = .ok (.istore_n 2, 1) := by decide +kernel
theorem dX5_readsPart_73 : decode cX5_readsPart 73 = .ok (.aload_n 0, 1) := by decide +kernel
theorem dX5_readsPart_74 : decode cX5_readsPart 74 = .ok (.dup, 1) := by decide +kernel
theorem dX5_readsPart_75 : decode cX5_readsPart 75 = .ok (.getfield 183, 3) := by decide +kernel
theorem dX5_readsPart_78 : decode cX5_readsPart 78 = .ok (.iload_n 2, 1) := by decide +kernel
theorem dX5_readsPart_79 : decode cX5_readsPart 79 = .ok (.bipush (-6), 2) := by decide +kernel
theorem dX5_readsPart_81 : decode cX5_readsPart 81 = .ok (.if_icmp .ne 7, 3) := by decide +kernel
theorem dX5_readsPart_84 : decode cX5_readsPart 84 = .ok (.iconst 0, 1) := by decide +kernel
theorem dX5_readsPart_85 : decode cX5_readsPart 85 = .ok (.goto 4, 3) := by decide +kernel
theorem dX5_readsPart_88 : decode cX5_readsPart 88 = .ok (.iconst 1, 1) := by decide +kernel
theorem dX5_readsPart_89 : decode cX5_readsPart 89 = .ok (.iadd, 1) := by decide +kernel
theorem dX5_readsPart_90 : decode cX5_readsPart 90 = .ok (.putfield 183, 3) := by decide +kernel
theorem dX5_readsPart_93 : decode cX5_readsPart 93 = .ok (.iload_n 2, 1) := by decide +kernel
theorem dX5_readsPart_94 : decode cX5_readsPart 94 = .ok (.ireturn, 1) := by decide +kernel
set_option maxRecDepth 20000 in
theorem ggX5_readsColour_X5_readsPart : GoodIn wsX5_readsColour wsX5_readsPart := goodIn_r _ [10, 3, 4, 5, 11, 12, 13, 14, 15, 16, 9, 17, 18, 19, 20, 21, 22, 23, 24, 25, 26, 27, 28, 29, 30, 31, 32, 33, 34] (by decide +kernel) (by decide +kernel)
set_option maxRecDepth 20000 in
theorem gX5_readsColour_X5_readsPart : GoodIn wsX5_readsColour (wsV RX5 197 RX5 yX5_readsPart wsX5_readsPart) := goodIn_app (goodIn_of _ (by decide +kernel)) ggX5_readsColour_X5_readsPart
theorem dX5_readsColour_0 : decode cX5_readsColour 0 = .ok (.aload_n 0, 1) := by decide +kernel
theorem dX5_readsColour_1 : decode cX5_readsColour 1 = .ok (.getfield 46, 3) := by decide +kernel
theorem dX5_readsColour_4 : decode cX5_readsColour 4 = .ok (.aload_n 0, 1) := by decide +kernel
theorem dX5_readsColour_5 : decode cX5_readsColour 5 = .ok (.getfield 194, 3) := by decide +kernel
theorem dX5_readsColour_8 : decode cX5_readsColour 8 = .ok (.iconst (-1), 1) := by decide +kernel
theorem dX5_readsColour_9 : decode cX5_readsColour 9 = .ok (.iastore, 1) := by decide +kernel
theorem dX5_readsColour_10 : decode cX5_readsColour 10 = .ok (.aload_n 0, 1) := by decide +kernel
theorem dX5_readsColour_11 : decode cX5_readsColour 11 = .ok (.getfield 183, 3) := by decide +kernel
theorem dX5_readsColour_14 : decode cX5_readsColour 14 = .ok (.aload_n 0, 1) := by decide +kernel
theorem dX5_readsColour_15 : decode cX5_readsColour 15 = .ok (.getfield 163, 3) := by decide +kernel
theorem dX5_readsColour_18 : decode cX5_readsColour 18 = .ok (.if_icmp .ge 39, 3) := by decide +kernel
theorem dX5_readsColour_21 : decode cX5_readsColour 21 = .ok (.aload_n 0, 1) := by decide +kernel
theorem dX5_readsColour_22 : decode cX5_readsColour 22 = .ok (.getfield 43, 3) := by decide +kernel
theorem dX5_readsColour_25 : decode cX5_readsColour 25 = .ok (.aload_n 0, 1) := by decide +kernel
theorem dX5_readsColour_26 : decode cX5_readsColour 26 = .ok (.getfield 183, 3) := by decide +kernel
theorem dX5_readsColour_29 : decode cX5_readsColour 29 = .ok (.iaload, 1) := by decide +kernel
theorem dX5_readsColour_30 : decode cX5_readsColour 30 = .ok (.bipush 46, 2) := by decide +kernel
theorem dX5_readsColour_32 : decode cX5_readsColour 32 = .ok (.if_icmp .ne 25, 3) := by decide +kernel
theorem dX5_readsColour_35 : decode cX5_readsColour 35 = .ok (.aload_n 0, 1) := by decide +kernel
theorem dX5_readsColour_36 : decode cX5_readsColour 36 = .ok (.dup, 1) := by decide +kernel
theorem dX5_readsColour_37 : decode cX5_readsColour 37 = .ok (.getfield 183, 3) := by decide +kernel
theorem dX5_readsColour_40 : decode cX5_readsColour 40 = .ok (.iconst 1, 1) := by decide +kernel
theorem dX5_readsColour_41 : decode cX5_readsColour 41 = .ok (.iadd, 1) := by decide +kernel
theorem dX5_readsColour_42 : decode cX5_readsColour 42 = .ok (.putfield 183, 3) := by decide +kernel
theorem dX5_readsColour_45 : decode cX5_readsColour 45 = .ok (.aload_n 0, 1) := by decide +kernel
theorem dX5_readsColour_46 : decode cX5_readsColour 46 = .ok (.dup, 1) := by decide +kernel
theorem dX5_readsColour_47 : decode cX5_readsColour 47 = .ok (.getfield 194, 3) := by decide +kernel
theorem dX5_readsColour_50 : decode cX5_readsColour 50 = .ok (.iconst 1, 1) := by decide +kernel
theorem dX5_readsColour_51 : decode cX5_readsColour 51 = .ok (.iadd, 1) := by decide +kernel
theorem dX5_readsColour_52 : decode cX5_readsColour 52 = .ok (.putfield 194, 3) := by decide +kernel
theorem dX5_readsColour_55 : decode cX5_readsColour 55 = .ok (.iconst 1, 1) := by decide +kernel
theorem dX5_readsColour_56 : decode cX5_readsColour 56 = .ok (.ireturn, 1) := by decide +kernel
theorem dX5_readsColour_57 : decode cX5_readsColour 57 = .ok (.iconst 0, 1) := by decide +kernel
theorem dX5_readsColour_58 : decode cX5_readsColour 58 = .ok (.istore_n 1, 1) := by decide +kernel
theorem dX5_readsColour_59 : decode cX5_readsColour 59 = .ok (.iconst 0, 1) := by decide +kernel
theorem dX5_readsColour_60 : decode cX5_readsColour 60 = .ok (.istore_n 2, 1) := by decide +kernel
theorem dX5_readsColour_61 : decode cX5_readsColour 61 = .ok (.iload_n 2, 1) := by decide +kernel
theorem dX5_readsColour_62 : decode cX5_readsColour 62 = .ok (.iconst 3, 1) := by decide +kernel
theorem dX5_readsColour_63 : decode cX5_readsColour 63 = .ok (.if_icmp .ge 29, 3) := by decide +kernel
theorem dX5_readsColour_66 : decode cX5_readsColour 66 = .ok (.aload_n 0, 1) := by decide +kernel
theorem dX5_readsColour_67 : decode cX5_readsColour 67 = .ok (.invokevirtual 197, 3) := by decide +kernel
theorem dX5_readsColour_70 : decode cX5_readsColour 70 = .ok (.istore_n 3, 1) := by decide +kernel
theorem dX5_readsColour_71 : decode cX5_readsColour 71 = .ok (.iload_n 3, 1) := by decide +kernel
theorem dX5_readsColour_72 : decode cX5_readsColour 72 = .ok (.bipush (-6), 2) := by decide +kernel
theorem dX5_readsColour_74 : decode cX5_readsColour 74 = .ok (.if_icmp .ne 5, 3) := by decide +kernel
theorem dX5_readsColour_77 : decode cX5_readsColour 77 = .ok (.iconst 0, 1) := by decide +kernel
theorem dX5_readsColour_78 : decode cX5_readsColour 78 = .ok (.ireturn, 1) := by decide +kernel
theorem dX5_readsColour_79 : decode cX5_readsColour 79 = .ok (.bipush 16, 2) := by decide +kernel
theorem dX5_readsColour_81 : decode cX5_readsColour 81 = .ok (.iload_n 1, 1) := by decide +kernel
theorem dX5_readsColour_82 : decode cX5_readsColour 82 = .ok (.imul, 1) := by decide +kernel
theorem dX5_readsColour_83 : decode cX5_readsColour 83 = .ok (.iload_n 3, 1) := by decide +kernel
theorem dX5_readsColour_84 : decode cX5_readsColour 84 = .ok (.iadd, 1) := by decide +kernel
theorem dX5_readsColour_85 : decode cX5_readsColour 85 = .ok (.istore_n 1, 1) := by decide +kernel
theorem dX5_readsColour_86 : decode cX5_readsColour 86 = .ok (.iinc 2 1, 3) := by decide +kernel
theorem dX5_readsColour_89 : decode cX5_readsColour 89 = .ok (.goto (-28), 3) := by decide +kernel
theorem dX5_readsColour_92 : decode cX5_readsColour 92 = .ok (.aload_n 0, 1) := by decide +kernel
theorem dX5_readsColour_93 : decode cX5_readsColour 93 = .ok (.getfield 46, 3) := by decide +kernel
theorem dX5_readsColour_96 : decode cX5_readsColour 96 = .ok (.aload_n 0, 1) := by decide +kernel
theorem dX5_readsColour_97 : decode cX5_readsColour 97 = .ok (.getfield 194, 3) := by decide +kernel
theorem dX5_readsColour_100 : decode cX5_readsColour 100 = .ok (.iload_n 1, 1) := by decide +kernel
theorem dX5_readsColour_101 : decode cX5_readsColour 101 = .ok (.iastore, 1) := by decide +kernel
theorem dX5_readsColour_102 : decode cX5_readsColour 102 = .ok (.aload_n 0, 1) := by decide +kernel
theorem dX5_readsColour_103 : decode cX5_readsColour 103 = .ok (.dup, 1) := by decide +kernel
theorem dX5_readsColour_104 : decode cX5_readsColour 104 = .ok (.getfield 194, 3) := by decide +kernel
theorem dX5_readsColour_107 : decode cX5_readsColour 107 = .ok (.iconst 1, 1) := by decide +kernel
theorem dX5_readsColour_108 : decode cX5_readsColour 108 = .ok (.iadd, 1) := by decide +kernel
theorem dX5_readsColour_109 : decode cX5_readsColour 109 = .ok (.putfield 194, 3) := by decide +kernel
theorem dX5_readsColour_112 : decode cX5_readsColour 112 = .ok (.iconst 1, 1) := by decide +kernel
theorem dX5_readsColour_113 : decode cX5_readsColour 113 = .ok (.ireturn, 1) := by decide +kernel
set_option maxRecDepth 20000 in
theorem ggX5_fault_X5_readsColour : GoodIn wsX5_fault wsX5_readsColour := goodIn_r _ [8, 9, 2, 1, 3, 10, 11, 12, 13, 7, 14, 15, 16, 17, 18, 19, 20, 21, 22, 23, 24, 25, 26, 27, 28, 29, 30, 31, 32, 33, 34, 35, 36, 37, 38] (by decide +kernel) (by decide +kernel)
set_option maxRecDepth 20000 in
theorem gX5_fault_X5_readsColour : GoodIn wsX5_fault (wsV RX5 200 RX5 yX5_readsColour wsX5_readsColour) := goodIn_app (goodIn_of _ (by decide +kernel)) ggX5_fault_X5_readsColour
theorem dX5_fault_0 : decode cX5_fault 0 = .ok (.aload_n 0, 1) := by decide +kernel
theorem dX5_fault_1 : decode cX5_fault 1 = .ok (.iconst 0, 1) := by decide +kernel
theorem dX5_fault_2 : decode cX5_fault 2 = .ok (.putfield 183, 3) := by decide +kernel
theorem dX5_fault_5 : decode cX5_fault 5 = .ok (.aload_n 0, 1) := by decide +kernel
theorem dX5_fault_6 : decode cX5_fault 6 = .ok (.iconst 0, 1) := by decide +kernel
theorem dX5_fault_7 : decode cX5_fault 7 = .ok (.putfield 194, 3) := by decide +kernel
theorem dX5_fault_10 : decode cX5_fault 10 = .ok (.iconst 1, 1) := by decide +kernel
theorem dX5_fault_11 : decode cX5_fault 11 = .ok (.istore_n 1, 1) := by decide +kernel
theorem dX5_fault_12 : decode cX5_fault 12 = .ok (.iload_n 1, 1) := by decide +kernel
theorem dX5_fault_13 : decode cX5_fault 13 = .ok (.ifCond .eq 44, 3) := by decide +kernel
theorem dX5_fault_16 : decode cX5_fault 16 = .ok (.aload_n 0, 1) := by decide +kernel
theorem dX5_fault_17 : decode cX5_fault 17 = .ok (.invokevirtual 200, 3) := by decide +kernel
theorem dX5_fault_20 : decode cX5_fault 20 = .ok (.ifCond .ne 8, 3) := by decide +kernel
theorem dX5_fault_23 : decode cX5_fault 23 = .ok (.aload_n 0, 1) := by decide +kernel
theorem dX5_fault_24 : decode cX5_fault 24 = .ok (.getfield 183, 3) := by decide +kernel
theorem dX5_fault_27 : decode cX5_fault 27 = .ok (.ireturn, 1) := by decide +kernel
theorem dX5_fault_28 : decode cX5_fault 28 = .ok (.aload_n 0, 1) := by decide +kernel
theorem dX5_fault_29 : decode cX5_fault 29 = .ok (.getfield 183, 3) := by decide +kernel
theorem dX5_fault_32 : decode cX5_fault 32 = .ok (.aload_n 0, 1) := by decide +kernel
theorem dX5_fault_33 : decode cX5_fault 33 = .ok (.getfield 163, 3) := by decide +kernel
theorem dX5_fault_36 : decode cX5_fault 36 = .ok (.if_icmp .ge 16, 3) := by decide +kernel
theorem dX5_fault_39 : decode cX5_fault 39 = .ok (.aload_n 0, 1) := by decide +kernel
theorem dX5_fault_40 : decode cX5_fault 40 = .ok (.getfield 194, 3) := by decide +kernel
theorem dX5_fault_43 : decode cX5_fault 43 = .ok (.bipush 8, 2) := by decide +kernel
theorem dX5_fault_45 : decode cX5_fault 45 = .ok (.if_icmp .ge 7, 3) := by decide +kernel
theorem dX5_fault_48 : decode cX5_fault 48 = .ok (.iconst 1, 1) := by decide +kernel
theorem dX5_fault_49 : decode cX5_fault 49 = .ok (.goto 4, 3) := by decide +kernel
theorem dX5_fault_52 : decode cX5_fault 52 = .ok (.iconst 0, 1) := by decide +kernel
theorem dX5_fault_53 : decode cX5_fault 53 = .ok (.istore_n 1, 1) := by decide +kernel
theorem dX5_fault_54 : decode cX5_fault 54 = .ok (.goto (-42), 3) := by decide +kernel
theorem dX5_fault_57 : decode cX5_fault 57 = .ok (.aload_n 0, 1) := by decide +kernel
theorem dX5_fault_58 : decode cX5_fault 58 = .ok (.getfield 183, 3) := by decide +kernel
theorem dX5_fault_61 : decode cX5_fault 61 = .ok (.aload_n 0, 1) := by decide +kernel
theorem dX5_fault_62 : decode cX5_fault 62 = .ok (.getfield 163, 3) := by decide +kernel
theorem dX5_fault_65 : decode cX5_fault 65 = .ok (.if_icmp .ne 8, 3) := by decide +kernel
theorem dX5_fault_68 : decode cX5_fault 68 = .ok (.bipush (-6), 2) := by decide +kernel
theorem dX5_fault_70 : decode cX5_fault 70 = .ok (.goto 7, 3) := by decide +kernel
theorem dX5_fault_73 : decode cX5_fault 73 = .ok (.aload_n 0, 1) := by decide +kernel
theorem dX5_fault_74 : decode cX5_fault 74 = .ok (.getfield 183, 3) := by decide +kernel
theorem dX5_fault_77 : decode cX5_fault 77 = .ok (.ireturn, 1) := by decide +kernel
set_option maxRecDepth 20000 in
theorem ggX5_read_X5_in : GoodIn wsX5_read wsX5_in := goodIn_r _ [9] (by decide +kernel) (by decide +kernel)
set_option maxRecDepth 20000 in
theorem gX5_read_X5_in : GoodIn wsX5_read (va_wsS RX5 66 yX5_in wsX5_in) := goodIn_app (goodIn_of _ (by decide +kernel)) ggX5_read_X5_in
set_option maxRecDepth 20000 in
theorem ggX5_read_X5_fault : GoodIn wsX5_read wsX5_fault := goodIn_r _ [13, 14, 2, 5, 15, 16, 17, 8, 18, 3, 19, 20, 21, 22, 23, 24, 25, 26, 27, 6, 7, 9, 37, 38, 39, 40, 41, 42, 43, 44, 45, 46, 47, 48, 49, 50, 51, 52, 53] (by decide +kernel) (by decide +kernel)
set_option maxRecDepth 20000 in
theorem gX5_read_X5_fault : GoodIn wsX5_read (wsV RX5 204 RX5 yX5_fault wsX5_fault) := goodIn_app (goodIn_of _ (by decide +kernel)) ggX5_read_X5_fault
set_option maxRecDepth 20000 in
theorem ggX5_read_X5_changes : GoodIn wsX5_read wsX5_changes := goodIn_r _ [31, 32, 33, 4, 37, 38, 39, 40, 41, 42, 43, 44, 45, 46, 47, 48, 49, 50, 51, 52, 53] (by decide +kernel) (by decide +kernel)
set_option maxRecDepth 20000 in
theorem gX5_read_X5_changes : GoodIn wsX5_read (wsV RX5 122 RX5 yX5_changes wsX5_changes) := goodIn_app (goodIn_of _ (by decide +kernel)) ggX5_read_X5_changes
set_option maxRecDepth 20000 in
theorem ggX5_read_X5_picture : GoodIn wsX5_read wsX5_picture := goodIn_r _ [36] (by decide +kernel) (by decide +kernel)
set_option maxRecDepth 20000 in
theorem gX5_read_X5_picture : GoodIn wsX5_read (va_wsS RX5 135 yX5_picture wsX5_picture) := goodIn_app (goodIn_of _ (by decide +kernel)) ggX5_read_X5_picture
theorem dX5_read_0 : decode cX5_read 0 = .ok (.iload_n 2, 1) := by decide +kernel
theorem dX5_read_1 : decode cX5_read 1 = .ok (.i2l, 1) := by decide +kernel
theorem dX5_read_2 : decode cX5_read 2 = .ok (.lconst 0, 1) := by decide +kernel
theorem dX5_read_3 : decode cX5_read 3 = .ok (.ldc2_w 70, 3) := by decide +kernel
theorem dX5_read_6 : decode cX5_read 6 = .ok (.invokestatic 66, 3) := by decide +kernel
theorem dX5_read_9 : decode cX5_read 9 = .ok (.ifCond .ne 5, 3) := by decide +kernel
theorem dX5_read_12 : decode cX5_read 12 = .ok (.iconst (-1), 1) := by decide +kernel
theorem dX5_read_13 : decode cX5_read 13 = .ok (.ireturn, 1) := by decide +kernel
theorem dX5_read_14 : decode cX5_read 14 = .ok (.aload_n 0, 1) := by decide +kernel
theorem dX5_read_15 : decode cX5_read 15 = .ok (.invokevirtual 204, 3) := by decide +kernel
theorem dX5_read_18 : decode cX5_read 18 = .ok (.bipush (-6), 2) := by decide +kernel
theorem dX5_read_20 : decode cX5_read 20 = .ok (.if_icmp .eq 6, 3) := by decide +kernel
theorem dX5_read_23 : decode cX5_read 23 = .ok (.bipush (-3), 2) := by decide +kernel
theorem dX5_read_25 : decode cX5_read 25 = .ok (.ireturn, 1) := by decide +kernel
theorem dX5_read_26 : decode cX5_read 26 = .ok (.aload_n 0, 1) := by decide +kernel
theorem dX5_read_27 : decode cX5_read 27 = .ok (.invokevirtual 122, 3) := by decide +kernel
theorem dX5_read_30 : decode cX5_read 30 = .ok (.iconst 0, 1) := by decide +kernel
theorem dX5_read_31 : decode cX5_read 31 = .ok (.istore_n 3, 1) := by decide +kernel
theorem dX5_read_32 : decode cX5_read 32 = .ok (.iconst 0, 1) := by decide +kernel
theorem dX5_read_33 : decode cX5_read 33 = .ok (.istore 4, 2) := by decide +kernel
theorem dX5_read_35 : decode cX5_read 35 = .ok (.iload 4, 2) := by decide +kernel
theorem dX5_read_37 : decode cX5_read 37 = .ok (.aload_n 0, 1) := by decide +kernel
theorem dX5_read_38 : decode cX5_read 38 = .ok (.getfield 194, 3) := by decide +kernel
theorem dX5_read_41 : decode cX5_read 41 = .ok (.if_icmp .ge 46, 3) := by decide +kernel
theorem dX5_read_44 : decode cX5_read 44 = .ok (.aload_n 0, 1) := by decide +kernel
theorem dX5_read_45 : decode cX5_read 45 = .ok (.getfield 46, 3) := by decide +kernel
theorem dX5_read_48 : decode cX5_read 48 = .ok (.iload 4, 2) := by decide +kernel
theorem dX5_read_50 : decode cX5_read 50 = .ok (.iaload, 1) := by decide +kernel
theorem dX5_read_51 : decode cX5_read 51 = .ok (.ifCond .lt 30, 3) := by decide +kernel
theorem dX5_read_54 : decode cX5_read 54 = .ok (.aload_n 0, 1) := by decide +kernel
theorem dX5_read_55 : decode cX5_read 55 = .ok (.getfield 7, 3) := by decide +kernel
theorem dX5_read_58 : decode cX5_read 58 = .ok (.iload_n 1, 1) := by decide +kernel
theorem dX5_read_59 : decode cX5_read 59 = .ok (.invokestatic 135, 3) := by decide +kernel
theorem dX5_read_62 : decode cX5_read 62 = .ok (.bipush 8, 2) := by decide +kernel
theorem dX5_read_64 : decode cX5_read 64 = .ok (.iload_n 2, 1) := by decide +kernel
theorem dX5_read_65 : decode cX5_read 65 = .ok (.imul, 1) := by decide +kernel
theorem dX5_read_66 : decode cX5_read 66 = .ok (.iadd, 1) := by decide +kernel
theorem dX5_read_67 : decode cX5_read 67 = .ok (.iload 4, 2) := by decide +kernel
theorem dX5_read_69 : decode cX5_read 69 = .ok (.iadd, 1) := by decide +kernel
theorem dX5_read_70 : decode cX5_read 70 = .ok (.aload_n 0, 1) := by decide +kernel
theorem dX5_read_71 : decode cX5_read 71 = .ok (.getfield 46, 3) := by decide +kernel
theorem dX5_read_74 : decode cX5_read 74 = .ok (.iload 4, 2) := by decide +kernel
theorem dX5_read_76 : decode cX5_read 76 = .ok (.iaload, 1) := by decide +kernel
theorem dX5_read_77 : decode cX5_read 77 = .ok (.iastore, 1) := by decide +kernel
theorem dX5_read_78 : decode cX5_read 78 = .ok (.iinc 3 1, 3) := by decide +kernel
theorem dX5_read_81 : decode cX5_read 81 = .ok (.iinc 4 1, 3) := by decide +kernel
theorem dX5_read_84 : decode cX5_read 84 = .ok (.goto (-49), 3) := by decide +kernel
theorem dX5_read_87 : decode cX5_read 87 = .ok (.aload_n 0, 1) := by decide +kernel
theorem dX5_read_88 : decode cX5_read 88 = .ok (.iconst 0, 1) := by decide +kernel
theorem dX5_read_89 : decode cX5_read 89 = .ok (.putfield 163, 3) := by decide +kernel
theorem dX5_read_92 : decode cX5_read 92 = .ok (.iload_n 3, 1) := by decide +kernel
theorem dX5_read_93 : decode cX5_read 93 = .ok (.ireturn, 1) := by decide +kernel
theorem dX5_undo_0 : decode cX5_undo 0 = .ok (.aload_n 0, 1) := by decide +kernel
theorem dX5_undo_1 : decode cX5_undo 1 = .ok (.getfield 49, 3) := by decide +kernel
theorem dX5_undo_4 : decode cX5_undo 4 = .ok (.ifCond .ne 6, 3) := by decide +kernel
theorem dX5_undo_7 : decode cX5_undo 7 = .ok (.bipush (-5), 2) := by decide +kernel
theorem dX5_undo_9 : decode cX5_undo 9 = .ok (.ireturn, 1) := by decide +kernel
theorem dX5_undo_10 : decode cX5_undo 10 = .ok (.aload_n 0, 1) := by decide +kernel
theorem dX5_undo_11 : decode cX5_undo 11 = .ok (.dup, 1) := by decide +kernel
theorem dX5_undo_12 : decode cX5_undo 12 = .ok (.getfield 49, 3) := by decide +kernel
theorem dX5_undo_15 : decode cX5_undo 15 = .ok (.iconst 1, 1) := by decide +kernel
theorem dX5_undo_16 : decode cX5_undo 16 = .ok (.isub, 1) := by decide +kernel
theorem dX5_undo_17 : decode cX5_undo 17 = .ok (.putfield 49, 3) := by decide +kernel
theorem dX5_undo_20 : decode cX5_undo 20 = .ok (.iconst 0, 1) := by decide +kernel
theorem dX5_undo_21 : decode cX5_undo 21 = .ok (.istore_n 1, 1) := by decide +kernel
theorem dX5_undo_22 : decode cX5_undo 22 = .ok (.iload_n 1, 1) := by decide +kernel
theorem dX5_undo_23 : decode cX5_undo 23 = .ok (.sipush 151, 3) := by decide +kernel
theorem dX5_undo_26 : decode cX5_undo 26 = .ok (.if_icmp .ge 30, 3) := by decide +kernel
theorem dX5_undo_29 : decode cX5_undo 29 = .ok (.aload_n 0, 1) := by decide +kernel
theorem dX5_undo_30 : decode cX5_undo 30 = .ok (.getfield 7, 3) := by decide +kernel
theorem dX5_undo_33 : decode cX5_undo 33 = .ok (.iload_n 1, 1) := by decide +kernel
theorem dX5_undo_34 : decode cX5_undo 34 = .ok (.aload_n 0, 1) := by decide +kernel
theorem dX5_undo_35 : decode cX5_undo 35 = .ok (.getfield 13, 3) := by decide +kernel
theorem dX5_undo_38 : decode cX5_undo 38 = .ok (.sipush 151, 3) := by decide +kernel
theorem dX5_undo_41 : decode cX5_undo 41 = .ok (.aload_n 0, 1) := by decide +kernel
theorem dX5_undo_42 : decode cX5_undo 42 = .ok (.getfield 49, 3) := by decide +kernel
theorem dX5_undo_45 : decode cX5_undo 45 = .ok (.imul, 1) := by decide +kernel
theorem dX5_undo_46 : decode cX5_undo 46 = .ok (.iload_n 1, 1) := by decide +kernel
theorem dX5_undo_47 : decode cX5_undo 47 = .ok (.iadd, 1) := by decide +kernel
theorem dX5_undo_48 : decode cX5_undo 48 = .ok (.iaload, 1) := by decide +kernel
theorem dX5_undo_49 : decode cX5_undo 49 = .ok (.iastore, 1) := by decide +kernel
theorem dX5_undo_50 : decode cX5_undo 50 = .ok (.iinc 1 1, 3) := by decide +kernel
theorem dX5_undo_53 : decode cX5_undo 53 = .ok (.goto (-31), 3) := by decide +kernel
theorem dX5_undo_56 : decode cX5_undo 56 = .ok (.aload_n 0, 1) := by decide +kernel
theorem dX5_undo_57 : decode cX5_undo 57 = .ok (.getfield 49, 3) := by decide +kernel
theorem dX5_undo_60 : decode cX5_undo 60 = .ok (.ireturn, 1) := by decide +kernel
theorem dX5_isSlot_0 : decode cX5_isSlot 0 = .ok (.iload_n 0, 1) := by decide +kernel
theorem dX5_isSlot_1 : decode cX5_isSlot 1 = .ok (.ifCond .eq 8, 3) := by decide +kernel
theorem dX5_isSlot_4 : decode cX5_isSlot 4 = .ok (.iload_n 0, 1) := by decide +kernel
theorem dX5_isSlot_5 : decode cX5_isSlot 5 = .ok (.iconst 1, 1) := by decide +kernel
theorem dX5_isSlot_6 : decode cX5_isSlot 6 = .ok (.if_icmp .ne 7, 3) := by decide +kernel
theorem dX5_isSlot_9 : decode cX5_isSlot 9 = .ok (.iconst 1, 1) := by decide +kernel
theorem dX5_isSlot_10 : decode cX5_isSlot 10 = .ok (.goto 4, 3) := by decide +kernel
theorem dX5_isSlot_13 : decode cX5_isSlot 13 = .ok (.iconst 0, 1) := by decide +kernel
theorem dX5_isSlot_14 : decode cX5_isSlot 14 = .ok (.ireturn, 1) := by decide +kernel
set_option maxRecDepth 20000 in
theorem ggX5_save_X5_isSlot : GoodIn wsX5_save wsX5_isSlot := goodIn_r _ [7] (by decide +kernel) (by decide +kernel)
set_option maxRecDepth 20000 in
theorem gX5_save_X5_isSlot : GoodIn wsX5_save (va_wsS RX5 207 yX5_isSlot wsX5_isSlot) := goodIn_app (goodIn_of _ (by decide +kernel)) ggX5_save_X5_isSlot
set_option maxRecDepth 20000 in
theorem ggX5_save_X5_marked : GoodIn wsX5_save wsX5_marked := goodIn_r _ [11, 2, 12, 13, 14, 15, 16, 17, 18, 19, 20, 21, 22, 23, 24, 25, 26, 27, 28] (by decide +kernel) (by decide +kernel)
set_option maxRecDepth 20000 in
theorem gX5_save_X5_marked : GoodIn wsX5_save (wsV RX5 143 RX5 yX5_marked wsX5_marked) := goodIn_app (goodIn_of _ (by decide +kernel)) ggX5_save_X5_marked
theorem dX5_save_0 : decode cX5_save 0 = .ok (.iload_n 1, 1) := by decide +kernel
theorem dX5_save_1 : decode cX5_save 1 = .ok (.invokestatic 207, 3) := by decide +kernel
theorem dX5_save_4 : decode cX5_save 4 = .ok (.ifCond .ne 6, 3) := by decide +kernel
theorem dX5_save_7 : decode cX5_save 7 = .ok (.bipush (-2), 2) := by decide +kernel
theorem dX5_save_9 : decode cX5_save 9 = .ok (.ireturn, 1) := by decide +kernel
theorem dX5_save_10 : decode cX5_save 10 = .ok (.iconst 0, 1) := by decide +kernel
theorem dX5_save_11 : decode cX5_save 11 = .ok (.istore_n 2, 1) := by decide +kernel
theorem dX5_save_12 : decode cX5_save 12 = .ok (.iload_n 2, 1) := by decide +kernel
theorem dX5_save_13 : decode cX5_save 13 = .ok (.sipush 151, 3) := by decide +kernel
theorem dX5_save_16 : decode cX5_save 16 = .ok (.if_icmp .ge 27, 3) := by decide +kernel
theorem dX5_save_19 : decode cX5_save 19 = .ok (.aload_n 0, 1) := by decide +kernel
theorem dX5_save_20 : decode cX5_save 20 = .ok (.getfield 16, 3) := by decide +kernel
theorem dX5_save_23 : decode cX5_save 23 = .ok (.sipush 151, 3) := by decide +kernel
theorem dX5_save_26 : decode cX5_save 26 = .ok (.iload_n 1, 1) := by decide +kernel
theorem dX5_save_27 : decode cX5_save 27 = .ok (.imul, 1) := by decide +kernel
theorem dX5_save_28 : decode cX5_save 28 = .ok (.iload_n 2, 1) := by decide +kernel
theorem dX5_save_29 : decode cX5_save 29 = .ok (.iadd, 1) := by decide +kernel
theorem dX5_save_30 : decode cX5_save 30 = .ok (.aload_n 0, 1) := by decide +kernel
theorem dX5_save_31 : decode cX5_save 31 = .ok (.getfield 7, 3) := by decide +kernel
theorem dX5_save_34 : decode cX5_save 34 = .ok (.iload_n 2, 1) := by decide +kernel
theorem dX5_save_35 : decode cX5_save 35 = .ok (.iaload, 1) := by decide +kernel
theorem dX5_save_36 : decode cX5_save 36 = .ok (.iastore, 1) := by decide +kernel
theorem dX5_save_37 : decode cX5_save 37 = .ok (.iinc 2 1, 3) := by decide +kernel
theorem dX5_save_40 : decode cX5_save 40 = .ok (.goto (-28), 3) := by decide +kernel
theorem dX5_save_43 : decode cX5_save 43 = .ok (.aload_n 0, 1) := by decide +kernel
theorem dX5_save_44 : decode cX5_save 44 = .ok (.getfield 19, 3) := by decide +kernel
theorem dX5_save_47 : decode cX5_save 47 = .ok (.iload_n 1, 1) := by decide +kernel
theorem dX5_save_48 : decode cX5_save 48 = .ok (.iconst 1, 1) := by decide +kernel
theorem dX5_save_49 : decode cX5_save 49 = .ok (.iastore, 1) := by decide +kernel
theorem dX5_save_50 : decode cX5_save 50 = .ok (.aload_n 0, 1) := by decide +kernel
theorem dX5_save_51 : decode cX5_save 51 = .ok (.invokevirtual 143, 3) := by decide +kernel
theorem dX5_save_54 : decode cX5_save 54 = .ok (.ireturn, 1) := by decide +kernel
set_option maxRecDepth 20000 in
theorem ggX5_restore_X5_isSlot : GoodIn wsX5_restore wsX5_isSlot := goodIn_r _ [7] (by decide +kernel) (by decide +kernel)
set_option maxRecDepth 20000 in
theorem gX5_restore_X5_isSlot : GoodIn wsX5_restore (va_wsS RX5 207 yX5_isSlot wsX5_isSlot) := goodIn_app (goodIn_of _ (by decide +kernel)) ggX5_restore_X5_isSlot
set_option maxRecDepth 20000 in
theorem ggX5_restore_X5_changes : GoodIn wsX5_restore wsX5_changes := goodIn_r _ [11, 12, 13, 2, 18, 19, 20, 21, 22, 23, 24, 25, 26, 27, 28, 29, 30, 31, 32, 33, 34] (by decide +kernel) (by decide +kernel)
set_option maxRecDepth 20000 in
theorem gX5_restore_X5_changes : GoodIn wsX5_restore (wsV RX5 122 RX5 yX5_changes wsX5_changes) := goodIn_app (goodIn_of _ (by decide +kernel)) ggX5_restore_X5_changes
set_option maxRecDepth 20000 in
theorem ggX5_restore_X5_marked : GoodIn wsX5_restore wsX5_marked := goodIn_r _ [17, 2, 18, 19, 20, 21, 22, 23, 24, 25, 26, 27, 28, 29, 30, 31, 32, 33, 34] (by decide +kernel) (by decide +kernel)
set_option maxRecDepth 20000 in
theorem gX5_restore_X5_marked : GoodIn wsX5_restore (wsV RX5 143 RX5 yX5_marked wsX5_marked) := goodIn_app (goodIn_of _ (by decide +kernel)) ggX5_restore_X5_marked
theorem dX5_restore_0 : decode cX5_restore 0 = .ok (.iload_n 1, 1) := by decide +kernel
theorem dX5_restore_1 : decode cX5_restore 1 = .ok (.invokestatic 207, 3) := by decide +kernel
theorem dX5_restore_4 : decode cX5_restore 4 = .ok (.ifCond .ne 6, 3) := by decide +kernel
theorem dX5_restore_7 : decode cX5_restore 7 = .ok (.bipush (-2), 2) := by decide +kernel
theorem dX5_restore_9 : decode cX5_restore 9 = .ok (.ireturn, 1) := by decide +kernel
theorem dX5_restore_10 : decode cX5_restore 10 = .ok (.aload_n 0, 1) := by decide +kernel
theorem dX5_restore_11 : decode cX5_restore 11 = .ok (.getfield 19, 3) := by decide +kernel
theorem dX5_restore_14 : decode cX5_restore 14 = .ok (.iload_n 1, 1) := by decide +kernel
theorem dX5_restore_15 : decode cX5_restore 15 = .ok (.iaload, 1) := by decide +kernel
theorem dX5_restore_16 : decode cX5_restore 16 = .ok (.ifCond .ne 6, 3) := by decide +kernel
theorem dX5_restore_19 : decode cX5_restore 19 = .ok (.bipush (-5), 2) := by decide +kernel
theorem dX5_restore_21 : decode cX5_restore 21 = .ok (.ireturn, 1) := by decide +kernel
theorem dX5_restore_22 : decode cX5_restore 22 = .ok (.aload_n 0, 1) := by decide +kernel
theorem dX5_restore_23 : decode cX5_restore 23 = .ok (.invokevirtual 122, 3) := by decide +kernel
theorem dX5_restore_26 : decode cX5_restore 26 = .ok (.iconst 0, 1) := by decide +kernel
theorem dX5_restore_27 : decode cX5_restore 27 = .ok (.istore_n 2, 1) := by decide +kernel
theorem dX5_restore_28 : decode cX5_restore 28 = .ok (.iload_n 2, 1) := by decide +kernel
theorem dX5_restore_29 : decode cX5_restore 29 = .ok (.sipush 151, 3) := by decide +kernel
theorem dX5_restore_32 : decode cX5_restore 32 = .ok (.if_icmp .ge 27, 3) := by decide +kernel
theorem dX5_restore_35 : decode cX5_restore 35 = .ok (.aload_n 0, 1) := by decide +kernel
theorem dX5_restore_36 : decode cX5_restore 36 = .ok (.getfield 7, 3) := by decide +kernel
theorem dX5_restore_39 : decode cX5_restore 39 = .ok (.iload_n 2, 1) := by decide +kernel
theorem dX5_restore_40 : decode cX5_restore 40 = .ok (.aload_n 0, 1) := by decide +kernel
theorem dX5_restore_41 : decode cX5_restore 41 = .ok (.getfield 16, 3) := by decide +kernel
theorem dX5_restore_44 : decode cX5_restore 44 = .ok (.sipush 151, 3) := by decide +kernel
theorem dX5_restore_47 : decode cX5_restore 47 = .ok (.iload_n 1, 1) := by decide +kernel
theorem dX5_restore_48 : decode cX5_restore 48 = .ok (.imul, 1) := by decide +kernel
theorem dX5_restore_49 : decode cX5_restore 49 = .ok (.iload_n 2, 1) := by decide +kernel
theorem dX5_restore_50 : decode cX5_restore 50 = .ok (.iadd, 1) := by decide +kernel
theorem dX5_restore_51 : decode cX5_restore 51 = .ok (.iaload, 1) := by decide +kernel
theorem dX5_restore_52 : decode cX5_restore 52 = .ok (.iastore, 1) := by decide +kernel
theorem dX5_restore_53 : decode cX5_restore 53 = .ok (.iinc 2 1, 3) := by decide +kernel
theorem dX5_restore_56 : decode cX5_restore 56 = .ok (.goto (-28), 3) := by decide +kernel
theorem dX5_restore_59 : decode cX5_restore 59 = .ok (.aload_n 0, 1) := by decide +kernel
theorem dX5_restore_60 : decode cX5_restore 60 = .ok (.invokevirtual 143, 3) := by decide +kernel
theorem dX5_restore_63 : decode cX5_restore 63 = .ok (.ireturn, 1) := by decide +kernel
theorem dJ9_floorMod_7cf53_0 : decode cJ9_floorMod_7cf53 0 = .ok (.iload_n 0, 1) := by decide +kernel
theorem dJ9_floorMod_7cf53_1 : decode cJ9_floorMod_7cf53 1 = .ok (.iload_n 1, 1) := by decide +kernel
theorem dJ9_floorMod_7cf53_2 : decode cJ9_floorMod_7cf53 2 = .ok (.irem, 1) := by decide +kernel
theorem dJ9_floorMod_7cf53_3 : decode cJ9_floorMod_7cf53 3 = .ok (.istore_n 2, 1) := by decide +kernel
theorem dJ9_floorMod_7cf53_4 : decode cJ9_floorMod_7cf53 4 = .ok (.iload_n 0, 1) := by decide +kernel
theorem dJ9_floorMod_7cf53_5 : decode cJ9_floorMod_7cf53 5 = .ok (.iload_n 1, 1) := by decide +kernel
theorem dJ9_floorMod_7cf53_6 : decode cJ9_floorMod_7cf53 6 = .ok (.ixor, 1) := by decide +kernel
theorem dJ9_floorMod_7cf53_7 : decode cJ9_floorMod_7cf53 7 = .ok (.ifCond .ge 11, 3) := by decide +kernel
theorem dJ9_floorMod_7cf53_10 : decode cJ9_floorMod_7cf53 10 = .ok (.iload_n 2, 1) := by decide +kernel
theorem dJ9_floorMod_7cf53_11 : decode cJ9_floorMod_7cf53 11 = .ok (.ifCond .eq 7, 3) := by decide +kernel
theorem dJ9_floorMod_7cf53_14 : decode cJ9_floorMod_7cf53 14 = .ok (.iload_n 2, 1) := by decide +kernel
theorem dJ9_floorMod_7cf53_15 : decode cJ9_floorMod_7cf53 15 = .ok (.iload_n 1, 1) := by decide +kernel
theorem dJ9_floorMod_7cf53_16 : decode cJ9_floorMod_7cf53 16 = .ok (.iadd, 1) := by decide +kernel
theorem dJ9_floorMod_7cf53_17 : decode cJ9_floorMod_7cf53 17 = .ok (.ireturn, 1) := by decide +kernel
theorem dJ9_floorMod_7cf53_18 : decode cJ9_floorMod_7cf53 18 = .ok (.iload_n 2, 1) := by decide +kernel
theorem dJ9_floorMod_7cf53_19 : decode cJ9_floorMod_7cf53 19 = .ok (.ireturn, 1) := by decide +kernel
theorem dJ9_abs_0f7a4_0 : decode cJ9_abs_0f7a4 0 = .ok (.iload_n 0, 1) := by decide +kernel
theorem dJ9_abs_0f7a4_1 : decode cJ9_abs_0f7a4 1 = .ok (.ifCond .ge 8, 3) := by decide +kernel
theorem dJ9_abs_0f7a4_4 : decode cJ9_abs_0f7a4 4 = .ok (.iload_n 0, 1) := by decide +kernel
theorem dJ9_abs_0f7a4_5 : decode cJ9_abs_0f7a4 5 = .ok (.ineg, 1) := by decide +kernel
theorem dJ9_abs_0f7a4_6 : decode cJ9_abs_0f7a4 6 = .ok (.goto 4, 3) := by decide +kernel
theorem dJ9_abs_0f7a4_9 : decode cJ9_abs_0f7a4 9 = .ok (.iload_n 0, 1) := by decide +kernel
theorem dJ9_abs_0f7a4_10 : decode cJ9_abs_0f7a4 10 = .ok (.ireturn, 1) := by decide +kernel
theorem dJ9_max_7cf53_0 : decode cJ9_max_7cf53 0 = .ok (.iload_n 0, 1) := by decide +kernel
theorem dJ9_max_7cf53_1 : decode cJ9_max_7cf53 1 = .ok (.iload_n 1, 1) := by decide +kernel
theorem dJ9_max_7cf53_2 : decode cJ9_max_7cf53 2 = .ok (.if_icmp .lt 7, 3) := by decide +kernel
theorem dJ9_max_7cf53_5 : decode cJ9_max_7cf53 5 = .ok (.iload_n 0, 1) := by decide +kernel
theorem dJ9_max_7cf53_6 : decode cJ9_max_7cf53 6 = .ok (.goto 4, 3) := by decide +kernel
theorem dJ9_max_7cf53_9 : decode cJ9_max_7cf53 9 = .ok (.iload_n 1, 1) := by decide +kernel
theorem dJ9_max_7cf53_10 : decode cJ9_max_7cf53 10 = .ok (.ireturn, 1) := by decide +kernel
theorem dJ9_min_7cf53_0 : decode cJ9_min_7cf53 0 = .ok (.iload_n 0, 1) := by decide +kernel
theorem dJ9_min_7cf53_1 : decode cJ9_min_7cf53 1 = .ok (.iload_n 1, 1) := by decide +kernel
theorem dJ9_min_7cf53_2 : decode cJ9_min_7cf53 2 = .ok (.if_icmp .gt 7, 3) := by decide +kernel
theorem dJ9_min_7cf53_5 : decode cJ9_min_7cf53 5 = .ok (.iload_n 0, 1) := by decide +kernel
theorem dJ9_min_7cf53_6 : decode cJ9_min_7cf53 6 = .ok (.goto 4, 3) := by decide +kernel
theorem dJ9_min_7cf53_9 : decode cJ9_min_7cf53 9 = .ok (.iload_n 1, 1) := by decide +kernel
theorem dJ9_min_7cf53_10 : decode cJ9_min_7cf53 10 = .ok (.ireturn, 1) := by decide +kernel
set_option maxRecDepth 20000 in
theorem ggL_law_X4_init : GoodIn wsL_law wsX4_init := goodIn_r _ [9, 10, 11, 12, 13, 14, 15, 16, 17, 18, 19, 20, 21, 22, 23, 24, 25, 26, 27, 28, 29, 30, 31, 32, 33, 34, 35, 36, 37, 38, 39, 40, 41, 42, 43, 44, 45, 46, 47, 48, 49, 50, 51, 52, 53, 54, 55, 56, 57, 58, 59, 60, 61, 62, 63, 64, 65, 66, 67, 68, 69, 70, 71, 72, 73, 599, 600, 601, 602, 603, 575, 576, 577, 578, 579, 580, 581, 604, 605, 606, 607, 608, 609, 610, 611, 612, 613, 614, 615, 616, 617, 618] (by decide +kernel) (by decide +kernel)
set_option maxRecDepth 20000 in
theorem gL_law_X4_init : GoodIn wsL_law (wsX4_init) := ggL_law_X4_init
set_option maxRecDepth 20000 in
theorem ggL_law_X5_init : GoodIn wsL_law wsX5_init := goodIn_r _ [76, 77, 11, 12, 36, 78, 79, 80, 81, 82, 83, 84, 85, 86, 87, 88, 89, 90, 582, 583, 584, 585, 586, 587, 588, 589, 590, 591, 592, 593, 594, 595, 596, 597, 598] (by decide +kernel) (by decide +kernel)
set_option maxRecDepth 20000 in
theorem gL_law_X5_init : GoodIn wsL_law (wsX5_init) := ggL_law_X5_init
set_option maxRecDepth 20000 in
theorem ggL_law_X4_set : GoodIn wsL_law wsX4_set := goodIn_r _ [94, 30, 16, 95, 96, 97, 2, 98, 99, 100, 101, 102, 103, 104, 105, 106, 29, 107, 70, 71, 72, 108, 109, 110, 111, 112, 113, 114, 15, 115, 37, 43, 44, 45, 46, 38, 39, 41, 42, 116, 117, 118, 119, 575, 576, 577, 578, 579, 580, 581, 599, 600, 601, 602, 603, 616, 617, 618] (by decide +kernel) (by decide +kernel)
set_option maxRecDepth 20000 in
theorem gL_law_X4_set : GoodIn wsL_law (wsV RL 13 RX4 yX4_set wsX4_set) := goodIn_app (goodIn_of _ (by decide +kernel)) ggL_law_X4_set
set_option maxRecDepth 20000 in
theorem ggL_law_X5_set : GoodIn wsL_law wsX5_set := goodIn_r _ [123, 78, 124, 125, 5, 126, 127, 128, 129, 130, 131, 132, 133, 134, 135, 136, 137, 138, 139, 140, 79, 582, 583, 584, 585, 586, 587, 588, 589, 590, 591, 592, 593, 594, 595, 596, 597, 598] (by decide +kernel) (by decide +kernel)
set_option maxRecDepth 20000 in
theorem gL_law_X5_set : GoodIn wsL_law (wsV RL 17 RX5 yX5_set wsX5_set) := goodIn_app (goodIn_of _ (by decide +kernel)) ggL_law_X5_set
set_option maxRecDepth 20000 in
theorem ggL_law_X4_screen : GoodIn wsL_law wsX4_screen := goodIn_r _ [144, 30, 16, 145, 146, 147, 2, 148, 104, 105, 106, 29, 107, 70, 71, 72, 108, 109, 110, 111, 112, 113, 114, 15, 115, 37, 43, 44, 45, 46, 38, 39, 41, 42, 575, 576, 577, 578, 579, 580, 581, 599, 600, 601, 602, 603, 616, 617, 618] (by decide +kernel) (by decide +kernel)
set_option maxRecDepth 20000 in
theorem gL_law_X4_screen : GoodIn wsL_law (wsV RL 18 RX4 yX4_screen wsX4_screen) := goodIn_app (goodIn_of _ (by decide +kernel)) ggL_law_X4_screen
set_option maxRecDepth 20000 in
theorem ggL_law_X5_screen : GoodIn wsL_law wsX5_screen := goodIn_r _ [152, 78, 153, 154, 5, 155, 156, 129, 130, 131, 136, 137, 138, 139, 140, 79, 582, 583, 584, 585, 586, 587, 588, 589, 590, 591, 592, 593, 594, 595, 596, 597, 598] (by decide +kernel) (by decide +kernel)
set_option maxRecDepth 20000 in
theorem gL_law_X5_screen : GoodIn wsL_law (wsV RL 22 RX5 yX5_screen wsX5_screen) := goodIn_app (goodIn_of _ (by decide +kernel)) ggL_law_X5_screen
set_option maxRecDepth 20000 in
theorem ggL_law_X4_paint : GoodIn wsL_law wsX4_paint := goodIn_r _ [160, 30, 16, 161, 162, 2, 163, 146, 147, 148, 104, 105, 106, 29, 107, 70, 71, 72, 108, 109, 110, 111, 112, 113, 114, 15, 115, 37, 43, 44, 45, 46, 38, 39, 41, 42, 164, 165, 166, 167, 575, 576, 577, 578, 579, 580, 581, 616, 617, 618, 599, 600, 601, 602, 603] (by decide +kernel) (by decide +kernel)
set_option maxRecDepth 20000 in
theorem gL_law_X4_paint : GoodIn wsL_law (wsV RL 23 RX4 yX4_paint wsX4_paint) := goodIn_app (goodIn_of _ (by decide +kernel)) ggL_law_X4_paint
set_option maxRecDepth 20000 in
theorem ggL_law_X5_paint : GoodIn wsL_law wsX5_paint := goodIn_r _ [171, 78, 172, 173, 5, 174, 175, 129, 130, 131, 153, 154, 155, 156, 136, 137, 138, 139, 140, 79, 176, 177, 178, 582, 583, 584, 585, 586, 587, 588, 589, 590, 591, 592, 593, 594, 595, 596, 597, 598] (by decide +kernel) (by decide +kernel)
set_option maxRecDepth 20000 in
theorem gL_law_X5_paint : GoodIn wsL_law (wsV RL 27 RX5 yX5_paint wsX5_paint) := goodIn_app (goodIn_of _ (by decide +kernel)) ggL_law_X5_paint
set_option maxRecDepth 20000 in
theorem ggL_law_X4_fill : GoodIn wsL_law wsX4_fill := goodIn_r _ [182, 30, 16, 161, 162, 2, 163, 146, 147, 148, 104, 105, 106, 29, 107, 70, 71, 72, 108, 109, 110, 111, 112, 113, 114, 15, 115, 37, 43, 44, 45, 46, 38, 39, 41, 42, 164, 165, 166, 167, 183, 184, 185, 186, 187, 188, 189, 190, 191, 192, 575, 576, 577, 578, 579, 580, 581, 616, 617, 618, 599, 600, 601, 602, 603] (by decide +kernel) (by decide +kernel)
set_option maxRecDepth 20000 in
theorem gL_law_X4_fill : GoodIn wsL_law (wsV RL 28 RX4 yX4_fill wsX4_fill) := goodIn_app (goodIn_of _ (by decide +kernel)) ggL_law_X4_fill
set_option maxRecDepth 20000 in
theorem ggL_law_X5_fill : GoodIn wsL_law wsX5_fill := goodIn_r _ [196, 78, 172, 173, 5, 174, 175, 129, 130, 131, 153, 154, 155, 156, 136, 137, 138, 139, 140, 79, 197, 198, 199, 176, 177, 178, 582, 583, 584, 585, 586, 587, 588, 589, 590, 591, 592, 593, 594, 595, 596, 597, 598] (by decide +kernel) (by decide +kernel)
set_option maxRecDepth 20000 in
theorem gL_law_X5_fill : GoodIn wsL_law (wsV RL 32 RX5 yX5_fill wsX5_fill) := goodIn_app (goodIn_of _ (by decide +kernel)) ggL_law_X5_fill
set_option maxRecDepth 20000 in
theorem ggL_law_X4_read : GoodIn wsL_law wsX4_read := goodIn_r _ [203, 26, 30, 16, 204, 205, 206, 2, 207, 208, 209, 210, 25, 211, 64, 63, 212, 213, 214, 104, 105, 106, 29, 107, 70, 71, 72, 108, 109, 110, 111, 112, 113, 114, 15, 115, 37, 43, 44, 45, 46, 38, 39, 41, 42, 164, 165, 166, 167, 215, 216, 217, 218, 162, 163, 575, 576, 577, 578, 579, 580, 581, 614, 615, 616, 617, 618, 599, 600, 601, 602, 603] (by decide +kernel) (by decide +kernel)
set_option maxRecDepth 20000 in
theorem gL_law_X4_read : GoodIn wsL_law (wsV RL 33 RX4 yX4_read wsX4_read) := goodIn_app (goodIn_of _ (by decide +kernel)) ggL_law_X4_read
set_option maxRecDepth 20000 in
theorem ggL_law_X5_read : GoodIn wsL_law wsX5_read := goodIn_r _ [222, 223, 224, 90, 78, 225, 129, 130, 5, 131, 226, 227, 228, 229, 230, 231, 232, 233, 234, 89, 235, 236, 237, 238, 239, 240, 241, 242, 136, 137, 138, 139, 140, 79, 176, 177, 178, 582, 583, 584, 585, 586, 587, 588, 589, 590, 591, 592, 593, 594, 595, 596, 597, 598] (by decide +kernel) (by decide +kernel)
set_option maxRecDepth 20000 in
theorem gL_law_X5_read : GoodIn wsL_law (wsV RL 37 RX5 yX5_read wsX5_read) := goodIn_app (goodIn_of _ (by decide +kernel)) ggL_law_X5_read
set_option maxRecDepth 20000 in
theorem ggL_law_X4_mark : GoodIn wsL_law wsX4_mark := goodIn_r _ [246, 16, 247, 30, 161, 162, 2, 163, 104, 105, 106, 29, 107, 70, 71, 72, 108, 109, 110, 111, 112, 113, 114, 15, 115, 37, 43, 44, 45, 46, 38, 39, 41, 42, 248, 249, 250, 251, 575, 576, 577, 578, 579, 580, 581, 599, 600, 601, 602, 603, 616, 617, 618] (by decide +kernel) (by decide +kernel)
set_option maxRecDepth 20000 in
theorem gL_law_X4_mark : GoodIn wsL_law (wsV RL 38 RX4 yX4_mark wsX4_mark) := goodIn_app (goodIn_of _ (by decide +kernel)) ggL_law_X4_mark
set_option maxRecDepth 20000 in
theorem ggL_law_X5_mark : GoodIn wsL_law wsX5_mark := goodIn_r _ [255, 78, 172, 173, 5, 174, 175, 129, 130, 131, 136, 137, 138, 139, 140, 79, 256, 257, 258, 259, 582, 583, 584, 585, 586, 587, 588, 589, 590, 591, 592, 593, 594, 595, 596, 597, 598] (by decide +kernel) (by decide +kernel)
set_option maxRecDepth 20000 in
theorem gL_law_X5_mark : GoodIn wsL_law (wsV RL 42 RX5 yX5_mark wsX5_mark) := goodIn_app (goodIn_of _ (by decide +kernel)) ggL_law_X5_mark
set_option maxRecDepth 20000 in
theorem ggL_law_X4_keep : GoodIn wsL_law wsX4_keep := goodIn_r _ [263, 30, 16, 21, 264, 265, 247, 104, 105, 106, 29, 107, 70, 71, 72, 108, 109, 110, 111, 112, 113, 114, 15, 115, 37, 43, 44, 45, 46, 38, 39, 41, 42, 266, 267, 268, 20, 269, 270, 271, 272, 273, 274, 50, 51, 275, 276, 277, 278, 162, 2, 163, 279, 280, 281, 282, 188, 283, 284, 285, 286, 287, 288, 289, 290, 291, 292, 293, 294, 295, 296, 57, 297, 298, 299, 300, 59, 58, 301, 302, 303, 304, 305, 306, 307, 308, 309, 310, 311, 312, 52, 313, 314, 315, 316, 317, 318, 319, 320, 321, 322, 323, 324, 325, 326, 53, 327, 54, 55, 56, 328, 329, 330, 331, 332, 190, 191, 192, 333, 334, 335, 336, 337, 338, 339, 340, 575, 576, 577, 578, 579, 580, 581, 604, 605, 606, 607, 608, 609, 610, 611, 612, 613, 599, 600, 601, 602, 603, 616, 617, 618] (by decide +kernel) (by decide +kernel)
set_option maxRecDepth 20000 in
theorem gL_law_X4_keep : GoodIn wsL_law (wsV RL 43 RX4 yX4_keep wsX4_keep) := goodIn_app (goodIn_of _ (by decide +kernel)) ggL_law_X4_keep
set_option maxRecDepth 20000 in
theorem ggL_law_X5_keep : GoodIn wsL_law wsX5_keep := goodIn_r _ [344, 78, 86, 136, 137, 138, 5, 139, 140, 79, 345, 346, 347, 348, 82, 83, 87, 84, 85, 349, 350, 351, 352, 353, 354, 355, 356, 357, 358, 359, 360, 361, 362, 363, 364, 365, 366, 367, 368, 369, 370, 371, 372, 373, 374, 375, 376, 223, 129, 130, 131, 377, 378, 379, 380, 381, 382, 383, 384, 385, 386, 387, 388, 389, 390, 391, 392, 393, 394, 395, 396, 397, 398, 399, 400, 401, 582, 583, 584, 585, 586, 587, 588, 589, 590, 591, 592, 593, 594, 595, 596, 597, 598] (by decide +kernel) (by decide +kernel)
set_option maxRecDepth 20000 in
theorem gL_law_X5_keep : GoodIn wsL_law (wsV RL 47 RX5 yX5_keep wsX5_keep) := goodIn_app (goodIn_of _ (by decide +kernel)) ggL_law_X5_keep
set_option maxRecDepth 20000 in
theorem ggL_law_X4_pixel : GoodIn wsL_law wsX4_pixel := goodIn_r _ [405, 21, 16, 265, 406, 407, 408, 409, 410, 411, 412, 264, 161, 162, 2, 163, 266, 267, 268, 20, 269, 270, 271, 272, 273, 274, 50, 51, 275, 276, 277, 15, 278, 38, 42, 279, 280, 281, 282, 188, 283, 284, 285, 286, 287, 288, 289, 290, 291, 292, 293, 294, 295, 296, 57, 297, 298, 299, 300, 59, 58, 301, 302, 303, 304, 305, 306, 307, 308, 309, 310, 311, 312, 52, 313, 314, 315, 316, 317, 318, 319, 320, 321, 322, 323, 324, 325, 326, 53, 327, 54, 55, 56, 328, 329, 330, 331, 332, 190, 191, 192, 333, 334, 335, 336, 337, 413, 575, 576, 577, 578, 579, 580, 581, 599, 600, 601, 602, 603, 604, 605, 606, 607, 608, 609, 610, 611, 612, 613] (by decide +kernel) (by decide +kernel)
set_option maxRecDepth 20000 in
theorem gL_law_X4_pixel : GoodIn wsL_law (wsV RL 48 RX4 yX4_pixel wsX4_pixel) := goodIn_app (goodIn_of _ (by decide +kernel)) ggL_law_X4_pixel
set_option maxRecDepth 20000 in
theorem ggL_law_X5_pixel : GoodIn wsL_law wsX5_pixel := goodIn_r _ [417, 78, 82, 83, 84, 85, 86, 172, 173, 5, 174, 175, 129, 130, 131, 345, 346, 347, 348, 87, 349, 350, 351, 352, 353, 354, 355, 356, 357, 358, 359, 360, 361, 362, 363, 364, 365, 366, 367, 368, 369, 370, 371, 372, 373, 374, 375, 376, 223, 377, 378, 379, 380, 381, 382, 383, 384, 385, 386, 387, 388, 389, 390, 391, 392, 393, 394, 395, 396, 397, 398, 399, 400, 401, 582, 583, 584, 585, 586, 587, 588, 589, 590, 591, 592, 593, 594, 595, 596, 597, 598] (by decide +kernel) (by decide +kernel)
set_option maxRecDepth 20000 in
theorem gL_law_X5_pixel : GoodIn wsL_law (wsV RL 51 RX5 yX5_pixel wsX5_pixel) := goodIn_app (goodIn_of _ (by decide +kernel)) ggL_law_X5_pixel
set_option maxRecDepth 20000 in
theorem ggL_law_X4_count : GoodIn wsL_law wsX4_count := goodIn_r _ [421, 16, 100, 21, 145, 408, 410, 411, 264, 406, 265, 26, 204, 30, 422, 266, 267, 268, 20, 269, 270, 271, 272, 273, 274, 50, 51, 275, 276, 277, 15, 278, 38, 42, 162, 2, 163, 279, 280, 281, 282, 188, 283, 284, 285, 286, 287, 288, 289, 290, 291, 292, 293, 294, 295, 296, 57, 297, 298, 299, 300, 59, 58, 301, 302, 303, 304, 305, 306, 307, 308, 309, 310, 311, 312, 52, 313, 314, 315, 316, 317, 318, 319, 320, 321, 322, 323, 324, 325, 326, 53, 327, 54, 55, 56, 328, 329, 330, 331, 332, 190, 191, 192, 333, 334, 335, 336, 337, 423, 424, 425, 426, 427, 428, 429, 430, 431, 432, 433, 338, 339, 340, 248, 249, 250, 251, 41, 575, 576, 577, 578, 579, 580, 581, 599, 600, 601, 602, 603, 604, 605, 606, 607, 608, 609, 610, 611, 612, 613, 614, 615, 616, 617, 618] (by decide +kernel) (by decide +kernel)
set_option maxRecDepth 20000 in
theorem gL_law_X4_count : GoodIn wsL_law (wsV RL 52 RX4 yX4_count wsX4_count) := goodIn_app (goodIn_of _ (by decide +kernel)) ggL_law_X4_count
set_option maxRecDepth 20000 in
theorem ggL_law_X5_count : GoodIn wsL_law wsX5_count := goodIn_r _ [437, 438, 78, 376, 439, 440, 441, 225, 140, 345, 346, 347, 5, 348, 82, 83, 87, 84, 85, 86, 349, 350, 351, 352, 353, 354, 355, 356, 357, 358, 359, 360, 361, 362, 363, 364, 365, 366, 367, 368, 369, 370, 371, 372, 373, 374, 375, 223, 129, 130, 131, 377, 378, 379, 380, 381, 382, 383, 384, 385, 386, 387, 388, 389, 390, 391, 392, 393, 394, 395, 396, 397, 398, 399, 400, 401, 442, 443, 444, 445, 446, 447, 448, 449, 256, 257, 258, 259, 582, 583, 584, 585, 586, 587, 588, 589, 590, 591, 592, 593, 594, 595, 596, 597, 598] (by decide +kernel) (by decide +kernel)
set_option maxRecDepth 20000 in
theorem gL_law_X5_count : GoodIn wsL_law (wsV RL 55 RX5 yX5_count wsX5_count) := goodIn_app (goodIn_of _ (by decide +kernel)) ggL_law_X5_count
set_option maxRecDepth 20000 in
theorem ggL_law_X4_row : GoodIn wsL_law wsX4_row := goodIn_r _ [453, 21, 16, 409, 205, 206, 2, 207, 266, 267, 268, 20, 269, 270, 271, 272, 273, 274, 50, 51, 275, 276, 277, 15, 278, 38, 42, 162, 163, 279, 280, 281, 282, 188, 283, 284, 285, 286, 287, 288, 289, 290, 291, 292, 293, 294, 295, 296, 57, 297, 298, 299, 300, 59, 58, 301, 302, 303, 304, 305, 306, 307, 308, 309, 310, 311, 312, 52, 313, 314, 315, 316, 317, 318, 319, 320, 321, 322, 323, 324, 325, 326, 53, 327, 54, 55, 56, 328, 329, 330, 331, 332, 190, 191, 192, 333, 334, 335, 336, 337, 575, 576, 577, 578, 579, 580, 581, 604, 605, 606, 607, 608, 609, 610, 611, 612, 613, 599, 600, 601, 602, 603] (by decide +kernel) (by decide +kernel)
set_option maxRecDepth 20000 in
theorem gL_law_X4_row : GoodIn wsL_law (wsV RL 56 RX4 yX4_row wsX4_row) := goodIn_app (goodIn_of _ (by decide +kernel)) ggL_law_X4_row
set_option maxRecDepth 20000 in
theorem ggL_law_X5_row : GoodIn wsL_law wsX5_row := goodIn_r _ [457, 223, 458, 84, 129, 130, 5, 131, 345, 346, 347, 348, 82, 78, 83, 87, 85, 86, 349, 350, 351, 352, 353, 354, 355, 356, 357, 358, 359, 360, 361, 362, 363, 364, 365, 366, 367, 368, 369, 370, 371, 372, 373, 374, 375, 376, 377, 378, 379, 380, 381, 382, 383, 384, 385, 386, 387, 388, 389, 390, 391, 392, 393, 394, 395, 396, 397, 398, 399, 400, 401, 582, 583, 584, 585, 586, 587, 588, 589, 590, 591, 592, 593, 594, 595, 596, 597, 598] (by decide +kernel) (by decide +kernel)
set_option maxRecDepth 20000 in
theorem gL_law_X5_row : GoodIn wsL_law (wsV RL 59 RX5 yX5_row wsX5_row) := goodIn_app (goodIn_of _ (by decide +kernel)) ggL_law_X5_row
set_option maxRecDepth 20000 in
theorem ggL_law_X4_bestScreen : GoodIn wsL_law wsX4_bestScreen := goodIn_r _ [462, 17, 16, 265, 145, 22, 463, 113, 114, 15, 115, 37, 43, 44, 45, 46, 38, 39, 41, 42, 464, 465, 466, 20, 467, 51, 313, 270, 271, 272, 273, 274, 50, 275, 276, 277, 278, 162, 2, 163, 279, 280, 281, 282, 188, 283, 284, 285, 286, 287, 288, 289, 290, 291, 292, 293, 294, 295, 296, 57, 297, 298, 299, 300, 59, 58, 301, 302, 303, 304, 305, 306, 307, 308, 575, 576, 577, 578, 579, 580, 581, 599, 600, 601, 602, 603, 604, 605, 606, 607, 608, 609, 610, 611, 612, 613] (by decide +kernel) (by decide +kernel)
set_option maxRecDepth 20000 in
theorem gL_law_X4_bestScreen : GoodIn wsL_law (wsV RL 60 RX4 yX4_bestScreen wsX4_bestScreen) := goodIn_app (goodIn_of _ (by decide +kernel)) ggL_law_X4_bestScreen
set_option maxRecDepth 20000 in
theorem ggL_law_X5_bestScreen : GoodIn wsL_law wsX5_bestScreen := goodIn_r _ [471, 78, 129, 130, 5, 131, 345, 346, 347, 348, 82, 83, 87, 84, 85, 86, 349, 350, 351, 352, 353, 354, 355, 356, 357, 358, 359, 360, 361, 362, 363, 364, 365, 366, 367, 368, 369, 370, 371, 372, 373, 374, 375, 376, 223, 377, 378, 379, 380, 381, 382, 383, 384, 385, 386, 387, 388, 389, 390, 391, 392, 393, 394, 395, 396, 397, 398, 399, 400, 401, 442, 443, 444, 445, 582, 583, 584, 585, 586, 587, 588, 589, 590, 591, 592, 593, 594, 595, 596, 597, 598] (by decide +kernel) (by decide +kernel)
set_option maxRecDepth 20000 in
theorem gL_law_X5_bestScreen : GoodIn wsL_law (wsV RL 63 RX5 yX5_bestScreen wsX5_bestScreen) := goodIn_app (goodIn_of _ (by decide +kernel)) ggL_law_X5_bestScreen
set_option maxRecDepth 20000 in
theorem ggL_law_X4_leastNear : GoodIn wsL_law wsX4_leastNear := goodIn_r _ [475, 16, 100, 161, 162, 2, 163, 413, 276, 277, 15, 278, 38, 42, 279, 280, 281, 282, 188, 283, 284, 285, 286, 287, 288, 289, 575, 576, 577, 578, 579, 580, 581, 599, 600, 601, 602, 603] (by decide +kernel) (by decide +kernel)
set_option maxRecDepth 20000 in
theorem gL_law_X4_leastNear : GoodIn wsL_law (wsV RL 64 RX4 yX4_leastNear wsX4_leastNear) := goodIn_app (goodIn_of _ (by decide +kernel)) ggL_law_X4_leastNear
set_option maxRecDepth 20000 in
theorem ggL_law_X5_leastNear : GoodIn wsL_law wsX5_leastNear := goodIn_r _ [479, 78, 172, 173, 5, 174, 175, 129, 130, 131, 356, 357, 358, 353, 354, 355, 359, 360, 361, 582, 583, 584, 585, 586, 587, 588, 589, 590, 591, 592, 593, 594, 595, 596, 597, 598] (by decide +kernel) (by decide +kernel)
set_option maxRecDepth 20000 in
theorem gL_law_X5_leastNear : GoodIn wsL_law (wsV RL 67 RX5 yX5_leastNear wsX5_leastNear) := goodIn_app (goodIn_of _ (by decide +kernel)) ggL_law_X5_leastNear
set_option maxRecDepth 20000 in
theorem ggL_law_X4_ifSet : GoodIn wsL_law wsX4_ifSet := goodIn_r _ [483, 17, 16, 21, 22, 264, 95, 96, 97, 2, 98, 99, 100, 101, 102, 103, 463, 113, 114, 15, 115, 37, 43, 44, 45, 46, 38, 39, 41, 42, 116, 117, 118, 119, 266, 267, 268, 20, 269, 270, 271, 272, 273, 274, 50, 51, 275, 276, 277, 278, 162, 163, 279, 280, 281, 282, 188, 283, 284, 285, 286, 287, 288, 289, 290, 291, 292, 293, 294, 295, 296, 57, 297, 298, 299, 300, 59, 58, 301, 302, 303, 304, 305, 306, 307, 308, 309, 310, 311, 312, 52, 313, 314, 315, 316, 317, 318, 319, 320, 321, 322, 323, 324, 325, 326, 53, 327, 54, 55, 56, 328, 329, 330, 331, 332, 190, 191, 192, 333, 334, 335, 336, 337, 338, 339, 340, 575, 576, 577, 578, 579, 580, 581, 604, 605, 606, 607, 608, 609, 610, 611, 612, 613, 599, 600, 601, 602, 603] (by decide +kernel) (by decide +kernel)
set_option maxRecDepth 20000 in
theorem gL_law_X4_ifSet : GoodIn wsL_law (wsV RL 68 RX4 yX4_ifSet wsX4_ifSet) := goodIn_app (goodIn_of _ (by decide +kernel)) ggL_law_X4_ifSet
set_option maxRecDepth 20000 in
theorem ggL_law_X5_ifSet : GoodIn wsL_law wsX5_ifSet := goodIn_r _ [487, 88, 86, 78, 124, 125, 5, 126, 127, 128, 129, 130, 131, 132, 133, 134, 135, 345, 346, 347, 348, 82, 83, 87, 84, 85, 349, 350, 351, 352, 353, 354, 355, 356, 357, 358, 359, 360, 361, 362, 363, 364, 365, 366, 367, 368, 369, 370, 371, 372, 373, 374, 375, 376, 223, 377, 378, 379, 380, 381, 382, 383, 384, 385, 386, 387, 388, 389, 390, 391, 392, 393, 394, 395, 396, 397, 398, 399, 400, 401, 582, 583, 584, 585, 586, 587, 588, 589, 590, 591, 592, 593, 594, 595, 596, 597, 598] (by decide +kernel) (by decide +kernel)
set_option maxRecDepth 20000 in
theorem gL_law_X5_ifSet : GoodIn wsL_law (wsV RL 71 RX5 yX5_ifSet wsX5_ifSet) := goodIn_app (goodIn_of _ (by decide +kernel)) ggL_law_X5_ifSet
set_option maxRecDepth 20000 in
theorem ggL_law_X4_bestShare : GoodIn wsL_law wsX4_bestShare := goodIn_r _ [491, 17, 16, 22, 463, 113, 114, 15, 115, 37, 43, 44, 45, 46, 38, 39, 41, 42, 116, 117, 118, 119, 102, 2, 103, 266, 267, 268, 20, 269, 270, 271, 272, 273, 274, 50, 51, 275, 276, 277, 278, 162, 163, 279, 280, 281, 282, 188, 283, 284, 285, 286, 287, 288, 289, 290, 291, 292, 293, 294, 295, 296, 57, 297, 298, 299, 300, 59, 58, 301, 302, 303, 304, 305, 306, 307, 308, 309, 310, 311, 312, 52, 313, 314, 315, 316, 317, 318, 319, 320, 321, 322, 323, 324, 325, 326, 53, 327, 54, 55, 56, 328, 329, 330, 331, 332, 190, 191, 192, 333, 334, 335, 336, 337, 492, 493, 494, 495, 575, 576, 577, 578, 579, 580, 581, 599, 600, 601, 602, 603, 604, 605, 606, 607, 608, 609, 610, 611, 612, 613] (by decide +kernel) (by decide +kernel)
set_option maxRecDepth 20000 in
theorem gL_law_X4_bestShare : GoodIn wsL_law (wsV RL 72 RX4 yX4_bestShare wsX4_bestShare) := goodIn_app (goodIn_of _ (by decide +kernel)) ggL_law_X4_bestShare
set_option maxRecDepth 20000 in
theorem ggL_law_X5_bestShare : GoodIn wsL_law wsX5_bestShare := goodIn_r _ [499, 500, 458, 78, 129, 130, 5, 131, 345, 346, 347, 348, 82, 83, 87, 84, 85, 86, 349, 350, 351, 352, 353, 354, 355, 356, 357, 358, 359, 360, 361, 362, 363, 364, 365, 366, 367, 368, 369, 370, 371, 372, 373, 374, 375, 376, 223, 377, 378, 379, 380, 381, 382, 383, 384, 385, 386, 387, 388, 389, 390, 391, 392, 393, 394, 395, 396, 397, 398, 399, 400, 401, 501, 502, 503, 504, 582, 583, 584, 585, 586, 587, 588, 589, 590, 591, 592, 593, 594, 595, 596, 597, 598] (by decide +kernel) (by decide +kernel)
set_option maxRecDepth 20000 in
theorem gL_law_X5_bestShare : GoodIn wsL_law (wsV RL 75 RX5 yX5_bestShare wsX5_bestShare) := goodIn_app (goodIn_of _ (by decide +kernel)) ggL_law_X5_bestShare
set_option maxRecDepth 20000 in
theorem ggL_law_X4_put : GoodIn wsL_law wsX4_put := goodIn_r _ [508, 26, 204, 509, 510, 2, 511, 512, 513, 514, 515, 25, 516, 64, 63, 517, 575, 576, 577, 578, 579, 580, 581, 614, 615] (by decide +kernel) (by decide +kernel)
set_option maxRecDepth 20000 in
theorem gL_law_X4_put : GoodIn wsL_law (wsV RL 78 RX4 yX4_put wsX4_put) := goodIn_app (goodIn_of _ (by decide +kernel)) ggL_law_X4_put
set_option maxRecDepth 20000 in
theorem ggL_law_X5_put : GoodIn wsL_law wsX5_put := goodIn_r _ [521, 225, 89, 522, 523, 524, 5, 525, 526, 527, 129, 130, 131, 582, 583, 584, 585, 586, 587, 588, 589, 590, 591, 592, 593, 594, 595, 596, 597, 598] (by decide +kernel) (by decide +kernel)
set_option maxRecDepth 20000 in
theorem gL_law_X5_put : GoodIn wsL_law (wsV RL 82 RX5 yX5_put wsX5_put) := goodIn_app (goodIn_of _ (by decide +kernel)) ggL_law_X5_put
set_option maxRecDepth 20000 in
theorem ggL_law_X4_wipe : GoodIn wsL_law wsX4_wipe := goodIn_r _ [531, 26, 204, 575, 576, 577, 578, 579, 580, 581, 614, 615] (by decide +kernel) (by decide +kernel)
set_option maxRecDepth 20000 in
theorem gL_law_X4_wipe : GoodIn wsL_law (wsV RL 83 RX4 yX4_wipe wsX4_wipe) := goodIn_app (goodIn_of _ (by decide +kernel)) ggL_law_X4_wipe
set_option maxRecDepth 20000 in
theorem ggL_law_X5_wipe : GoodIn wsL_law wsX5_wipe := goodIn_r _ [535, 225, 582, 583, 584, 585, 586, 587, 588, 589, 590, 591, 592, 593, 594, 595, 596, 597, 598] (by decide +kernel) (by decide +kernel)
set_option maxRecDepth 20000 in
theorem gL_law_X5_wipe : GoodIn wsL_law (wsV RL 86 RX5 yX5_wipe wsX5_wipe) := goodIn_app (goodIn_of _ (by decide +kernel)) ggL_law_X5_wipe
set_option maxRecDepth 20000 in
theorem ggL_law_X4_fault : GoodIn wsL_law wsX4_fault := goodIn_r _ [539, 26, 208, 209, 210, 25, 211, 64, 63, 212, 213, 214, 575, 576, 577, 578, 579, 580, 581, 614, 615] (by decide +kernel) (by decide +kernel)
set_option maxRecDepth 20000 in
theorem gL_law_X4_fault : GoodIn wsL_law (wsV RL 87 RX4 yX4_fault wsX4_fault) := goodIn_app (goodIn_of _ (by decide +kernel)) ggL_law_X4_fault
set_option maxRecDepth 20000 in
theorem ggL_law_X5_fault : GoodIn wsL_law wsX5_fault := goodIn_r _ [229, 230, 224, 225, 231, 232, 233, 5, 234, 90, 89, 235, 236, 237, 238, 239, 240, 241, 242, 129, 130, 131, 582, 583, 584, 585, 586, 587, 588, 589, 590, 591, 592, 593, 594, 595, 596, 597, 598] (by decide +kernel) (by decide +kernel)
set_option maxRecDepth 20000 in
theorem gL_law_X5_fault : GoodIn wsL_law (wsV RL 90 RX5 yX5_fault wsX5_fault) := goodIn_app (goodIn_of _ (by decide +kernel)) ggL_law_X5_fault
set_option maxRecDepth 20000 in
theorem ggL_law_X4_undo : GoodIn wsL_law wsX4_undo := goodIn_r _ [544, 30, 422, 16, 545, 546, 547, 29, 548, 72, 70, 71, 108, 109, 110, 111, 112, 113, 114, 15, 115, 37, 43, 44, 45, 46, 38, 39, 41, 42, 575, 576, 577, 578, 579, 580, 581, 616, 617, 618, 599, 600, 601, 602, 603] (by decide +kernel) (by decide +kernel)
set_option maxRecDepth 20000 in
theorem gL_law_X4_undo : GoodIn wsL_law (wsV RL 91 RX4 yX4_undo wsX4_undo) := goodIn_app (goodIn_of _ (by decide +kernel)) ggL_law_X4_undo
set_option maxRecDepth 20000 in
theorem ggL_law_X5_undo : GoodIn wsL_law wsX5_undo := goodIn_r _ [552, 140, 78, 79, 582, 583, 584, 585, 586, 587, 588, 589, 590, 591, 592, 593, 594, 595, 596, 597, 598] (by decide +kernel) (by decide +kernel)
set_option maxRecDepth 20000 in
theorem gL_law_X5_undo : GoodIn wsL_law (wsV RL 94 RX5 yX5_undo wsX5_undo) := goodIn_app (goodIn_of _ (by decide +kernel)) ggL_law_X5_undo
set_option maxRecDepth 20000 in
theorem ggL_law_X4_save : GoodIn wsL_law wsX4_save := goodIn_r _ [556, 31, 13, 14, 15, 16, 557, 558, 2, 559, 32, 33, 34, 35, 11, 12, 36, 37, 38, 39, 40, 41, 42, 43, 44, 45, 46, 463, 113, 114, 115, 248, 249, 250, 251, 575, 576, 577, 578, 579, 580, 581, 599, 600, 601, 602, 603] (by decide +kernel) (by decide +kernel)
set_option maxRecDepth 20000 in
theorem gL_law_X4_save : GoodIn wsL_law (wsV RL 95 RX4 yX4_save wsX4_save) := goodIn_app (goodIn_of _ (by decide +kernel)) ggL_law_X4_save
set_option maxRecDepth 20000 in
theorem ggL_law_X5_save : GoodIn wsL_law wsX5_save := goodIn_r _ [563, 80, 78, 81, 564, 565, 5, 566, 256, 257, 258, 259, 582, 583, 584, 585, 586, 587, 588, 589, 590, 591, 592, 593, 594, 595, 596, 597, 598] (by decide +kernel) (by decide +kernel)
set_option maxRecDepth 20000 in
theorem gL_law_X5_save : GoodIn wsL_law (wsV RL 98 RX5 yX5_save wsX5_save) := goodIn_app (goodIn_of _ (by decide +kernel)) ggL_law_X5_save
set_option maxRecDepth 20000 in
theorem ggL_law_X4_restore : GoodIn wsL_law wsX4_restore := goodIn_r _ [570, 31, 30, 16, 557, 558, 2, 559, 104, 105, 106, 29, 107, 70, 71, 72, 108, 109, 110, 111, 112, 113, 114, 15, 115, 37, 43, 44, 45, 46, 38, 39, 41, 42, 463, 248, 249, 250, 251, 575, 576, 577, 578, 579, 580, 581, 616, 617, 618, 599, 600, 601, 602, 603] (by decide +kernel) (by decide +kernel)
set_option maxRecDepth 20000 in
theorem gL_law_X4_restore : GoodIn wsL_law (wsV RL 99 RX4 yX4_restore wsX4_restore) := goodIn_app (goodIn_of _ (by decide +kernel)) ggL_law_X4_restore
set_option maxRecDepth 20000 in
theorem ggL_law_X5_restore : GoodIn wsL_law wsX5_restore := goodIn_r _ [574, 81, 78, 80, 564, 565, 5, 566, 136, 137, 138, 139, 140, 79, 256, 257, 258, 259, 582, 583, 584, 585, 586, 587, 588, 589, 590, 591, 592, 593, 594, 595, 596, 597, 598] (by decide +kernel) (by decide +kernel)
set_option maxRecDepth 20000 in
theorem gL_law_X5_restore : GoodIn wsL_law (wsV RL 102 RX5 yX5_restore wsX5_restore) := goodIn_app (goodIn_of _ (by decide +kernel)) ggL_law_X5_restore
theorem dL_law_0 : decode cL_law 0 = .ok (.new 7, 3) := by decide +kernel
theorem dL_law_3 : decode cL_law 3 = .ok (.dup, 1) := by decide +kernel
theorem dL_law_4 : decode cL_law 4 = .ok (.invokespecial 9, 3) := by decide +kernel
theorem dL_law_7 : decode cL_law 7 = .ok (.astore_n 1, 1) := by decide +kernel
theorem dL_law_8 : decode cL_law 8 = .ok (.new 10, 3) := by decide +kernel
theorem dL_law_11 : decode cL_law 11 = .ok (.dup, 1) := by decide +kernel
theorem dL_law_12 : decode cL_law 12 = .ok (.invokespecial 12, 3) := by decide +kernel
theorem dL_law_15 : decode cL_law 15 = .ok (.astore_n 2, 1) := by decide +kernel
theorem dL_law_16 : decode cL_law 16 = .ok (.iconst 0, 1) := by decide +kernel
theorem dL_law_17 : decode cL_law 17 = .ok (.istore_n 3, 1) := by decide +kernel
theorem dL_law_18 : decode cL_law 18 = .ok (.iload_n 3, 1) := by decide +kernel
theorem dL_law_19 : decode cL_law 19 = .ok (.aload_n 0, 1) := by decide +kernel
theorem dL_law_20 : decode cL_law 20 = .ok (.arraylength, 1) := by decide +kernel
theorem dL_law_21 : decode cL_law 21 = .ok (.iconst 5, 1) := by decide +kernel
theorem dL_law_22 : decode cL_law 22 = .ok (.isub, 1) := by decide +kernel
theorem dL_law_23 : decode cL_law 23 = .ok (.if_icmp .gt 745, 3) := by decide +kernel
theorem dL_law_26 : decode cL_law 26 = .ok (.aload_n 0, 1) := by decide +kernel
theorem dL_law_27 : decode cL_law 27 = .ok (.iload_n 3, 1) := by decide +kernel
theorem dL_law_28 : decode cL_law 28 = .ok (.iaload, 1) := by decide +kernel
theorem dL_law_29 : decode cL_law 29 = .ok (.bipush 31, 2) := by decide +kernel
theorem dL_law_31 : decode cL_law 31 = .ok (.iand, 1) := by decide +kernel
theorem dL_law_32 : decode cL_law 32 = .ok (.tableswitch 730 0 19 #[96, 129, 152, 211, 280, 329, 378, 391, 424, 447, 480, 503, 526, 559, 592, 645, 658, 671, 684, 707], 96) := by decide +kernel
theorem dL_law_128 : decode cL_law 128 = .ok (.aload_n 1, 1) := by decide +kernel
theorem dL_law_129 : decode cL_law 129 = .ok (.aload_n 0, 1) := by decide +kernel
theorem dL_law_130 : decode cL_law 130 = .ok (.iload_n 3, 1) := by decide +kernel
theorem dL_law_131 : decode cL_law 131 = .ok (.iconst 1, 1) := by decide +kernel
theorem dL_law_132 : decode cL_law 132 = .ok (.iadd, 1) := by decide +kernel
theorem dL_law_133 : decode cL_law 133 = .ok (.iaload, 1) := by decide +kernel
theorem dL_law_134 : decode cL_law 134 = .ok (.aload_n 0, 1) := by decide +kernel
theorem dL_law_135 : decode cL_law 135 = .ok (.iload_n 3, 1) := by decide +kernel
theorem dL_law_136 : decode cL_law 136 = .ok (.iconst 2, 1) := by decide +kernel
theorem dL_law_137 : decode cL_law 137 = .ok (.iadd, 1) := by decide +kernel
theorem dL_law_138 : decode cL_law 138 = .ok (.iaload, 1) := by decide +kernel
theorem dL_law_139 : decode cL_law 139 = .ok (.invokevirtual 13, 3) := by decide +kernel
theorem dL_law_142 : decode cL_law 142 = .ok (.aload_n 2, 1) := by decide +kernel
theorem dL_law_143 : decode cL_law 143 = .ok (.aload_n 0, 1) := by decide +kernel
theorem dL_law_144 : decode cL_law 144 = .ok (.iload_n 3, 1) := by decide +kernel
theorem dL_law_145 : decode cL_law 145 = .ok (.iconst 1, 1) := by decide +kernel
theorem dL_law_146 : decode cL_law 146 = .ok (.iadd, 1) := by decide +kernel
theorem dL_law_147 : decode cL_law 147 = .ok (.iaload, 1) := by decide +kernel
theorem dL_law_148 : decode cL_law 148 = .ok (.aload_n 0, 1) := by decide +kernel
theorem dL_law_149 : decode cL_law 149 = .ok (.iload_n 3, 1) := by decide +kernel
theorem dL_law_150 : decode cL_law 150 = .ok (.iconst 2, 1) := by decide +kernel
theorem dL_law_151 : decode cL_law 151 = .ok (.iadd, 1) := by decide +kernel
theorem dL_law_152 : decode cL_law 152 = .ok (.iaload, 1) := by decide +kernel
theorem dL_law_153 : decode cL_law 153 = .ok (.invokevirtual 17, 3) := by decide +kernel
theorem dL_law_156 : decode cL_law 156 = .ok (.if_icmp .eq 606, 3) := by decide +kernel
theorem dL_law_159 : decode cL_law 159 = .ok (.iconst 0, 1) := by decide +kernel
theorem dL_law_160 : decode cL_law 160 = .ok (.ireturn, 1) := by decide +kernel
theorem dL_law_161 : decode cL_law 161 = .ok (.aload_n 1, 1) := by decide +kernel
theorem dL_law_162 : decode cL_law 162 = .ok (.aload_n 0, 1) := by decide +kernel
theorem dL_law_163 : decode cL_law 163 = .ok (.iload_n 3, 1) := by decide +kernel
theorem dL_law_164 : decode cL_law 164 = .ok (.iconst 1, 1) := by decide +kernel
theorem dL_law_165 : decode cL_law 165 = .ok (.iadd, 1) := by decide +kernel
theorem dL_law_166 : decode cL_law 166 = .ok (.iaload, 1) := by decide +kernel
theorem dL_law_167 : decode cL_law 167 = .ok (.invokevirtual 18, 3) := by decide +kernel
theorem dL_law_170 : decode cL_law 170 = .ok (.aload_n 2, 1) := by decide +kernel
theorem dL_law_171 : decode cL_law 171 = .ok (.aload_n 0, 1) := by decide +kernel
theorem dL_law_172 : decode cL_law 172 = .ok (.iload_n 3, 1) := by decide +kernel
theorem dL_law_173 : decode cL_law 173 = .ok (.iconst 1, 1) := by decide +kernel
theorem dL_law_174 : decode cL_law 174 = .ok (.iadd, 1) := by decide +kernel
theorem dL_law_175 : decode cL_law 175 = .ok (.iaload, 1) := by decide +kernel
theorem dL_law_176 : decode cL_law 176 = .ok (.invokevirtual 22, 3) := by decide +kernel
theorem dL_law_179 : decode cL_law 179 = .ok (.if_icmp .eq 583, 3) := by decide +kernel
theorem dL_law_182 : decode cL_law 182 = .ok (.iconst 0, 1) := by decide +kernel
theorem dL_law_183 : decode cL_law 183 = .ok (.ireturn, 1) := by decide +kernel
theorem dL_law_184 : decode cL_law 184 = .ok (.aload_n 1, 1) := by decide +kernel
theorem dL_law_185 : decode cL_law 185 = .ok (.aload_n 0, 1) := by decide +kernel
theorem dL_law_186 : decode cL_law 186 = .ok (.iload_n 3, 1) := by decide +kernel
theorem dL_law_187 : decode cL_law 187 = .ok (.iconst 1, 1) := by decide +kernel
theorem dL_law_188 : decode cL_law 188 = .ok (.iadd, 1) := by decide +kernel
theorem dL_law_189 : decode cL_law 189 = .ok (.iaload, 1) := by decide +kernel
theorem dL_law_190 : decode cL_law 190 = .ok (.ifCond .eq 7, 3) := by decide +kernel
theorem dL_law_193 : decode cL_law 193 = .ok (.iconst 1, 1) := by decide +kernel
theorem dL_law_194 : decode cL_law 194 = .ok (.goto 4, 3) := by decide +kernel
theorem dL_law_197 : decode cL_law 197 = .ok (.iconst 0, 1) := by decide +kernel
theorem dL_law_198 : decode cL_law 198 = .ok (.aload_n 0, 1) := by decide +kernel
theorem dL_law_199 : decode cL_law 199 = .ok (.iload_n 3, 1) := by decide +kernel
theorem dL_law_200 : decode cL_law 200 = .ok (.iconst 2, 1) := by decide +kernel
theorem dL_law_201 : decode cL_law 201 = .ok (.iadd, 1) := by decide +kernel
theorem dL_law_202 : decode cL_law 202 = .ok (.iaload, 1) := by decide +kernel
theorem dL_law_203 : decode cL_law 203 = .ok (.aload_n 0, 1) := by decide +kernel
theorem dL_law_204 : decode cL_law 204 = .ok (.iload_n 3, 1) := by decide +kernel
theorem dL_law_205 : decode cL_law 205 = .ok (.iconst 3, 1) := by decide +kernel
theorem dL_law_206 : decode cL_law 206 = .ok (.iadd, 1) := by decide +kernel
theorem dL_law_207 : decode cL_law 207 = .ok (.iaload, 1) := by decide +kernel
theorem dL_law_208 : decode cL_law 208 = .ok (.invokevirtual 23, 3) := by decide +kernel
theorem dL_law_211 : decode cL_law 211 = .ok (.aload_n 2, 1) := by decide +kernel
theorem dL_law_212 : decode cL_law 212 = .ok (.aload_n 0, 1) := by decide +kernel
theorem dL_law_213 : decode cL_law 213 = .ok (.iload_n 3, 1) := by decide +kernel
theorem dL_law_214 : decode cL_law 214 = .ok (.iconst 1, 1) := by decide +kernel
theorem dL_law_215 : decode cL_law 215 = .ok (.iadd, 1) := by decide +kernel
theorem dL_law_216 : decode cL_law 216 = .ok (.iaload, 1) := by decide +kernel
theorem dL_law_217 : decode cL_law 217 = .ok (.ifCond .eq 7, 3) := by decide +kernel
theorem dL_law_220 : decode cL_law 220 = .ok (.iconst 1, 1) := by decide +kernel
theorem dL_law_221 : decode cL_law 221 = .ok (.goto 4, 3) := by decide +kernel
theorem dL_law_224 : decode cL_law 224 = .ok (.iconst 0, 1) := by decide +kernel
theorem dL_law_225 : decode cL_law 225 = .ok (.aload_n 0, 1) := by decide +kernel
theorem dL_law_226 : decode cL_law 226 = .ok (.iload_n 3, 1) := by decide +kernel
theorem dL_law_227 : decode cL_law 227 = .ok (.iconst 2, 1) := by decide +kernel
theorem dL_law_228 : decode cL_law 228 = .ok (.iadd, 1) := by decide +kernel
theorem dL_law_229 : decode cL_law 229 = .ok (.iaload, 1) := by decide +kernel
theorem dL_law_230 : decode cL_law 230 = .ok (.aload_n 0, 1) := by decide +kernel
theorem dL_law_231 : decode cL_law 231 = .ok (.iload_n 3, 1) := by decide +kernel
theorem dL_law_232 : decode cL_law 232 = .ok (.iconst 3, 1) := by decide +kernel
theorem dL_law_233 : decode cL_law 233 = .ok (.iadd, 1) := by decide +kernel
theorem dL_law_234 : decode cL_law 234 = .ok (.iaload, 1) := by decide +kernel
theorem dL_law_235 : decode cL_law 235 = .ok (.invokevirtual 27, 3) := by decide +kernel
theorem dL_law_238 : decode cL_law 238 = .ok (.if_icmp .eq 524, 3) := by decide +kernel
theorem dL_law_241 : decode cL_law 241 = .ok (.iconst 0, 1) := by decide +kernel
theorem dL_law_242 : decode cL_law 242 = .ok (.ireturn, 1) := by decide +kernel
theorem dL_law_243 : decode cL_law 243 = .ok (.aload_n 1, 1) := by decide +kernel
theorem dL_law_244 : decode cL_law 244 = .ok (.aload_n 0, 1) := by decide +kernel
theorem dL_law_245 : decode cL_law 245 = .ok (.iload_n 3, 1) := by decide +kernel
theorem dL_law_246 : decode cL_law 246 = .ok (.iconst 1, 1) := by decide +kernel
theorem dL_law_247 : decode cL_law 247 = .ok (.iadd, 1) := by decide +kernel
theorem dL_law_248 : decode cL_law 248 = .ok (.iaload, 1) := by decide +kernel
theorem dL_law_249 : decode cL_law 249 = .ok (.ifCond .eq 7, 3) := by decide +kernel
theorem dL_law_252 : decode cL_law 252 = .ok (.iconst 1, 1) := by decide +kernel
theorem dL_law_253 : decode cL_law 253 = .ok (.goto 4, 3) := by decide +kernel
theorem dL_law_256 : decode cL_law 256 = .ok (.iconst 0, 1) := by decide +kernel
theorem dL_law_257 : decode cL_law 257 = .ok (.aload_n 0, 1) := by decide +kernel
theorem dL_law_258 : decode cL_law 258 = .ok (.iload_n 3, 1) := by decide +kernel
theorem dL_law_259 : decode cL_law 259 = .ok (.iconst 2, 1) := by decide +kernel
theorem dL_law_260 : decode cL_law 260 = .ok (.iadd, 1) := by decide +kernel
theorem dL_law_261 : decode cL_law 261 = .ok (.iaload, 1) := by decide +kernel
theorem dL_law_262 : decode cL_law 262 = .ok (.aload_n 0, 1) := by decide +kernel
theorem dL_law_263 : decode cL_law 263 = .ok (.iload_n 3, 1) := by decide +kernel
theorem dL_law_264 : decode cL_law 264 = .ok (.iconst 3, 1) := by decide +kernel
theorem dL_law_265 : decode cL_law 265 = .ok (.iadd, 1) := by decide +kernel
theorem dL_law_266 : decode cL_law 266 = .ok (.iaload, 1) := by decide +kernel
theorem dL_law_267 : decode cL_law 267 = .ok (.aload_n 0, 1) := by decide +kernel
theorem dL_law_268 : decode cL_law 268 = .ok (.iload_n 3, 1) := by decide +kernel
theorem dL_law_269 : decode cL_law 269 = .ok (.iconst 4, 1) := by decide +kernel
theorem dL_law_270 : decode cL_law 270 = .ok (.iadd, 1) := by decide +kernel
theorem dL_law_271 : decode cL_law 271 = .ok (.iaload, 1) := by decide +kernel
theorem dL_law_272 : decode cL_law 272 = .ok (.invokevirtual 28, 3) := by decide +kernel
theorem dL_law_275 : decode cL_law 275 = .ok (.aload_n 2, 1) := by decide +kernel
theorem dL_law_276 : decode cL_law 276 = .ok (.aload_n 0, 1) := by decide +kernel
theorem dL_law_277 : decode cL_law 277 = .ok (.iload_n 3, 1) := by decide +kernel
theorem dL_law_278 : decode cL_law 278 = .ok (.iconst 1, 1) := by decide +kernel
theorem dL_law_279 : decode cL_law 279 = .ok (.iadd, 1) := by decide +kernel
theorem dL_law_280 : decode cL_law 280 = .ok (.iaload, 1) := by decide +kernel
theorem dL_law_281 : decode cL_law 281 = .ok (.ifCond .eq 7, 3) := by decide +kernel
theorem dL_law_284 : decode cL_law 284 = .ok (.iconst 1, 1) := by decide +kernel
theorem dL_law_285 : decode cL_law 285 = .ok (.goto 4, 3) := by decide +kernel
theorem dL_law_288 : decode cL_law 288 = .ok (.iconst 0, 1) := by decide +kernel
theorem dL_law_289 : decode cL_law 289 = .ok (.aload_n 0, 1) := by decide +kernel
theorem dL_law_290 : decode cL_law 290 = .ok (.iload_n 3, 1) := by decide +kernel
theorem dL_law_291 : decode cL_law 291 = .ok (.iconst 2, 1) := by decide +kernel
theorem dL_law_292 : decode cL_law 292 = .ok (.iadd, 1) := by decide +kernel
theorem dL_law_293 : decode cL_law 293 = .ok (.iaload, 1) := by decide +kernel
theorem dL_law_294 : decode cL_law 294 = .ok (.aload_n 0, 1) := by decide +kernel
theorem dL_law_295 : decode cL_law 295 = .ok (.iload_n 3, 1) := by decide +kernel
theorem dL_law_296 : decode cL_law 296 = .ok (.iconst 3, 1) := by decide +kernel
theorem dL_law_297 : decode cL_law 297 = .ok (.iadd, 1) := by decide +kernel
theorem dL_law_298 : decode cL_law 298 = .ok (.iaload, 1) := by decide +kernel
theorem dL_law_299 : decode cL_law 299 = .ok (.aload_n 0, 1) := by decide +kernel
theorem dL_law_300 : decode cL_law 300 = .ok (.iload_n 3, 1) := by decide +kernel
theorem dL_law_301 : decode cL_law 301 = .ok (.iconst 4, 1) := by decide +kernel
theorem dL_law_302 : decode cL_law 302 = .ok (.iadd, 1) := by decide +kernel
theorem dL_law_303 : decode cL_law 303 = .ok (.iaload, 1) := by decide +kernel
theorem dL_law_304 : decode cL_law 304 = .ok (.invokevirtual 32, 3) := by decide +kernel
theorem dL_law_307 : decode cL_law 307 = .ok (.if_icmp .eq 455, 3) := by decide +kernel
theorem dL_law_310 : decode cL_law 310 = .ok (.iconst 0, 1) := by decide +kernel
theorem dL_law_311 : decode cL_law 311 = .ok (.ireturn, 1) := by decide +kernel
theorem dL_law_312 : decode cL_law 312 = .ok (.aload_n 1, 1) := by decide +kernel
theorem dL_law_313 : decode cL_law 313 = .ok (.aload_n 0, 1) := by decide +kernel
theorem dL_law_314 : decode cL_law 314 = .ok (.iload_n 3, 1) := by decide +kernel
theorem dL_law_315 : decode cL_law 315 = .ok (.iconst 1, 1) := by decide +kernel
theorem dL_law_316 : decode cL_law 316 = .ok (.iadd, 1) := by decide +kernel
theorem dL_law_317 : decode cL_law 317 = .ok (.iaload, 1) := by decide +kernel
theorem dL_law_318 : decode cL_law 318 = .ok (.ifCond .eq 7, 3) := by decide +kernel
theorem dL_law_321 : decode cL_law 321 = .ok (.iconst 1, 1) := by decide +kernel
theorem dL_law_322 : decode cL_law 322 = .ok (.goto 4, 3) := by decide +kernel
theorem dL_law_325 : decode cL_law 325 = .ok (.iconst 0, 1) := by decide +kernel
theorem dL_law_326 : decode cL_law 326 = .ok (.aload_n 0, 1) := by decide +kernel
theorem dL_law_327 : decode cL_law 327 = .ok (.iload_n 3, 1) := by decide +kernel
theorem dL_law_328 : decode cL_law 328 = .ok (.iconst 2, 1) := by decide +kernel
theorem dL_law_329 : decode cL_law 329 = .ok (.iadd, 1) := by decide +kernel
theorem dL_law_330 : decode cL_law 330 = .ok (.iaload, 1) := by decide +kernel
theorem dL_law_331 : decode cL_law 331 = .ok (.invokevirtual 33, 3) := by decide +kernel
theorem dL_law_334 : decode cL_law 334 = .ok (.aload_n 2, 1) := by decide +kernel
theorem dL_law_335 : decode cL_law 335 = .ok (.aload_n 0, 1) := by decide +kernel
theorem dL_law_336 : decode cL_law 336 = .ok (.iload_n 3, 1) := by decide +kernel
theorem dL_law_337 : decode cL_law 337 = .ok (.iconst 1, 1) := by decide +kernel
theorem dL_law_338 : decode cL_law 338 = .ok (.iadd, 1) := by decide +kernel
theorem dL_law_339 : decode cL_law 339 = .ok (.iaload, 1) := by decide +kernel
theorem dL_law_340 : decode cL_law 340 = .ok (.ifCond .eq 7, 3) := by decide +kernel
theorem dL_law_343 : decode cL_law 343 = .ok (.iconst 1, 1) := by decide +kernel
theorem dL_law_344 : decode cL_law 344 = .ok (.goto 4, 3) := by decide +kernel
theorem dL_law_347 : decode cL_law 347 = .ok (.iconst 0, 1) := by decide +kernel
theorem dL_law_348 : decode cL_law 348 = .ok (.aload_n 0, 1) := by decide +kernel
theorem dL_law_349 : decode cL_law 349 = .ok (.iload_n 3, 1) := by decide +kernel
theorem dL_law_350 : decode cL_law 350 = .ok (.iconst 2, 1) := by decide +kernel
theorem dL_law_351 : decode cL_law 351 = .ok (.iadd, 1) := by decide +kernel
theorem dL_law_352 : decode cL_law 352 = .ok (.iaload, 1) := by decide +kernel
theorem dL_law_353 : decode cL_law 353 = .ok (.invokevirtual 37, 3) := by decide +kernel
theorem dL_law_356 : decode cL_law 356 = .ok (.if_icmp .eq 406, 3) := by decide +kernel
theorem dL_law_359 : decode cL_law 359 = .ok (.iconst 0, 1) := by decide +kernel
theorem dL_law_360 : decode cL_law 360 = .ok (.ireturn, 1) := by decide +kernel
theorem dL_law_361 : decode cL_law 361 = .ok (.aload_n 1, 1) := by decide +kernel
theorem dL_law_362 : decode cL_law 362 = .ok (.aload_n 0, 1) := by decide +kernel
theorem dL_law_363 : decode cL_law 363 = .ok (.iload_n 3, 1) := by decide +kernel
theorem dL_law_364 : decode cL_law 364 = .ok (.iconst 1, 1) := by decide +kernel
theorem dL_law_365 : decode cL_law 365 = .ok (.iadd, 1) := by decide +kernel
theorem dL_law_366 : decode cL_law 366 = .ok (.iaload, 1) := by decide +kernel
theorem dL_law_367 : decode cL_law 367 = .ok (.aload_n 0, 1) := by decide +kernel
theorem dL_law_368 : decode cL_law 368 = .ok (.iload_n 3, 1) := by decide +kernel
theorem dL_law_369 : decode cL_law 369 = .ok (.iconst 2, 1) := by decide +kernel
theorem dL_law_370 : decode cL_law 370 = .ok (.iadd, 1) := by decide +kernel
theorem dL_law_371 : decode cL_law 371 = .ok (.iaload, 1) := by decide +kernel
theorem dL_law_372 : decode cL_law 372 = .ok (.ifCond .eq 7, 3) := by decide +kernel
theorem dL_law_375 : decode cL_law 375 = .ok (.iconst 1, 1) := by decide +kernel
theorem dL_law_376 : decode cL_law 376 = .ok (.goto 4, 3) := by decide +kernel
theorem dL_law_379 : decode cL_law 379 = .ok (.iconst 0, 1) := by decide +kernel
theorem dL_law_380 : decode cL_law 380 = .ok (.invokevirtual 38, 3) := by decide +kernel
theorem dL_law_383 : decode cL_law 383 = .ok (.aload_n 2, 1) := by decide +kernel
theorem dL_law_384 : decode cL_law 384 = .ok (.aload_n 0, 1) := by decide +kernel
theorem dL_law_385 : decode cL_law 385 = .ok (.iload_n 3, 1) := by decide +kernel
theorem dL_law_386 : decode cL_law 386 = .ok (.iconst 1, 1) := by decide +kernel
theorem dL_law_387 : decode cL_law 387 = .ok (.iadd, 1) := by decide +kernel
theorem dL_law_388 : decode cL_law 388 = .ok (.iaload, 1) := by decide +kernel
theorem dL_law_389 : decode cL_law 389 = .ok (.aload_n 0, 1) := by decide +kernel
theorem dL_law_390 : decode cL_law 390 = .ok (.iload_n 3, 1) := by decide +kernel
theorem dL_law_391 : decode cL_law 391 = .ok (.iconst 2, 1) := by decide +kernel
theorem dL_law_392 : decode cL_law 392 = .ok (.iadd, 1) := by decide +kernel
theorem dL_law_393 : decode cL_law 393 = .ok (.iaload, 1) := by decide +kernel
theorem dL_law_394 : decode cL_law 394 = .ok (.ifCond .eq 7, 3) := by decide +kernel
theorem dL_law_397 : decode cL_law 397 = .ok (.iconst 1, 1) := by decide +kernel
theorem dL_law_398 : decode cL_law 398 = .ok (.goto 4, 3) := by decide +kernel
theorem dL_law_401 : decode cL_law 401 = .ok (.iconst 0, 1) := by decide +kernel
theorem dL_law_402 : decode cL_law 402 = .ok (.invokevirtual 42, 3) := by decide +kernel
theorem dL_law_405 : decode cL_law 405 = .ok (.if_icmp .eq 357, 3) := by decide +kernel
theorem dL_law_408 : decode cL_law 408 = .ok (.iconst 0, 1) := by decide +kernel
theorem dL_law_409 : decode cL_law 409 = .ok (.ireturn, 1) := by decide +kernel
theorem dL_law_410 : decode cL_law 410 = .ok (.aload_n 1, 1) := by decide +kernel
theorem dL_law_411 : decode cL_law 411 = .ok (.invokevirtual 43, 3) := by decide +kernel
theorem dL_law_414 : decode cL_law 414 = .ok (.aload_n 2, 1) := by decide +kernel
theorem dL_law_415 : decode cL_law 415 = .ok (.invokevirtual 47, 3) := by decide +kernel
theorem dL_law_418 : decode cL_law 418 = .ok (.if_icmp .eq 344, 3) := by decide +kernel
theorem dL_law_421 : decode cL_law 421 = .ok (.iconst 0, 1) := by decide +kernel
theorem dL_law_422 : decode cL_law 422 = .ok (.ireturn, 1) := by decide +kernel
theorem dL_law_423 : decode cL_law 423 = .ok (.aload_n 1, 1) := by decide +kernel
theorem dL_law_424 : decode cL_law 424 = .ok (.aload_n 0, 1) := by decide +kernel
theorem dL_law_425 : decode cL_law 425 = .ok (.iload_n 3, 1) := by decide +kernel
theorem dL_law_426 : decode cL_law 426 = .ok (.iconst 1, 1) := by decide +kernel
theorem dL_law_427 : decode cL_law 427 = .ok (.iadd, 1) := by decide +kernel
theorem dL_law_428 : decode cL_law 428 = .ok (.iaload, 1) := by decide +kernel
theorem dL_law_429 : decode cL_law 429 = .ok (.aload_n 0, 1) := by decide +kernel
theorem dL_law_430 : decode cL_law 430 = .ok (.iload_n 3, 1) := by decide +kernel
theorem dL_law_431 : decode cL_law 431 = .ok (.iconst 2, 1) := by decide +kernel
theorem dL_law_432 : decode cL_law 432 = .ok (.iadd, 1) := by decide +kernel
theorem dL_law_433 : decode cL_law 433 = .ok (.iaload, 1) := by decide +kernel
theorem dL_law_434 : decode cL_law 434 = .ok (.invokevirtual 48, 3) := by decide +kernel
theorem dL_law_437 : decode cL_law 437 = .ok (.aload_n 2, 1) := by decide +kernel
theorem dL_law_438 : decode cL_law 438 = .ok (.aload_n 0, 1) := by decide +kernel
theorem dL_law_439 : decode cL_law 439 = .ok (.iload_n 3, 1) := by decide +kernel
theorem dL_law_440 : decode cL_law 440 = .ok (.iconst 1, 1) := by decide +kernel
theorem dL_law_441 : decode cL_law 441 = .ok (.iadd, 1) := by decide +kernel
theorem dL_law_442 : decode cL_law 442 = .ok (.iaload, 1) := by decide +kernel
theorem dL_law_443 : decode cL_law 443 = .ok (.aload_n 0, 1) := by decide +kernel
theorem dL_law_444 : decode cL_law 444 = .ok (.iload_n 3, 1) := by decide +kernel
theorem dL_law_445 : decode cL_law 445 = .ok (.iconst 2, 1) := by decide +kernel
theorem dL_law_446 : decode cL_law 446 = .ok (.iadd, 1) := by decide +kernel
theorem dL_law_447 : decode cL_law 447 = .ok (.iaload, 1) := by decide +kernel
theorem dL_law_448 : decode cL_law 448 = .ok (.invokevirtual 51, 3) := by decide +kernel
theorem dL_law_451 : decode cL_law 451 = .ok (.if_icmp .eq 311, 3) := by decide +kernel
theorem dL_law_454 : decode cL_law 454 = .ok (.iconst 0, 1) := by decide +kernel
theorem dL_law_455 : decode cL_law 455 = .ok (.ireturn, 1) := by decide +kernel
theorem dL_law_456 : decode cL_law 456 = .ok (.aload_n 1, 1) := by decide +kernel
theorem dL_law_457 : decode cL_law 457 = .ok (.aload_n 0, 1) := by decide +kernel
theorem dL_law_458 : decode cL_law 458 = .ok (.iload_n 3, 1) := by decide +kernel
theorem dL_law_459 : decode cL_law 459 = .ok (.iconst 1, 1) := by decide +kernel
theorem dL_law_460 : decode cL_law 460 = .ok (.iadd, 1) := by decide +kernel
theorem dL_law_461 : decode cL_law 461 = .ok (.iaload, 1) := by decide +kernel
theorem dL_law_462 : decode cL_law 462 = .ok (.invokevirtual 52, 3) := by decide +kernel
theorem dL_law_465 : decode cL_law 465 = .ok (.aload_n 2, 1) := by decide +kernel
theorem dL_law_466 : decode cL_law 466 = .ok (.aload_n 0, 1) := by decide +kernel
theorem dL_law_467 : decode cL_law 467 = .ok (.iload_n 3, 1) := by decide +kernel
theorem dL_law_468 : decode cL_law 468 = .ok (.iconst 1, 1) := by decide +kernel
theorem dL_law_469 : decode cL_law 469 = .ok (.iadd, 1) := by decide +kernel
theorem dL_law_470 : decode cL_law 470 = .ok (.iaload, 1) := by decide +kernel
theorem dL_law_471 : decode cL_law 471 = .ok (.invokevirtual 55, 3) := by decide +kernel
theorem dL_law_474 : decode cL_law 474 = .ok (.if_icmp .eq 288, 3) := by decide +kernel
theorem dL_law_477 : decode cL_law 477 = .ok (.iconst 0, 1) := by decide +kernel
theorem dL_law_478 : decode cL_law 478 = .ok (.ireturn, 1) := by decide +kernel
theorem dL_law_479 : decode cL_law 479 = .ok (.aload_n 1, 1) := by decide +kernel
theorem dL_law_480 : decode cL_law 480 = .ok (.aload_n 0, 1) := by decide +kernel
theorem dL_law_481 : decode cL_law 481 = .ok (.iload_n 3, 1) := by decide +kernel
theorem dL_law_482 : decode cL_law 482 = .ok (.iconst 1, 1) := by decide +kernel
theorem dL_law_483 : decode cL_law 483 = .ok (.iadd, 1) := by decide +kernel
theorem dL_law_484 : decode cL_law 484 = .ok (.iaload, 1) := by decide +kernel
theorem dL_law_485 : decode cL_law 485 = .ok (.aload_n 0, 1) := by decide +kernel
theorem dL_law_486 : decode cL_law 486 = .ok (.iload_n 3, 1) := by decide +kernel
theorem dL_law_487 : decode cL_law 487 = .ok (.iconst 2, 1) := by decide +kernel
theorem dL_law_488 : decode cL_law 488 = .ok (.iadd, 1) := by decide +kernel
theorem dL_law_489 : decode cL_law 489 = .ok (.iaload, 1) := by decide +kernel
theorem dL_law_490 : decode cL_law 490 = .ok (.invokevirtual 56, 3) := by decide +kernel
theorem dL_law_493 : decode cL_law 493 = .ok (.aload_n 2, 1) := by decide +kernel
theorem dL_law_494 : decode cL_law 494 = .ok (.aload_n 0, 1) := by decide +kernel
theorem dL_law_495 : decode cL_law 495 = .ok (.iload_n 3, 1) := by decide +kernel
theorem dL_law_496 : decode cL_law 496 = .ok (.iconst 1, 1) := by decide +kernel
theorem dL_law_497 : decode cL_law 497 = .ok (.iadd, 1) := by decide +kernel
theorem dL_law_498 : decode cL_law 498 = .ok (.iaload, 1) := by decide +kernel
theorem dL_law_499 : decode cL_law 499 = .ok (.aload_n 0, 1) := by decide +kernel
theorem dL_law_500 : decode cL_law 500 = .ok (.iload_n 3, 1) := by decide +kernel
theorem dL_law_501 : decode cL_law 501 = .ok (.iconst 2, 1) := by decide +kernel
theorem dL_law_502 : decode cL_law 502 = .ok (.iadd, 1) := by decide +kernel
theorem dL_law_503 : decode cL_law 503 = .ok (.iaload, 1) := by decide +kernel
theorem dL_law_504 : decode cL_law 504 = .ok (.invokevirtual 59, 3) := by decide +kernel
theorem dL_law_507 : decode cL_law 507 = .ok (.if_icmp .eq 255, 3) := by decide +kernel
theorem dL_law_510 : decode cL_law 510 = .ok (.iconst 0, 1) := by decide +kernel
theorem dL_law_511 : decode cL_law 511 = .ok (.ireturn, 1) := by decide +kernel
theorem dL_law_512 : decode cL_law 512 = .ok (.aload_n 1, 1) := by decide +kernel
theorem dL_law_513 : decode cL_law 513 = .ok (.aload_n 0, 1) := by decide +kernel
theorem dL_law_514 : decode cL_law 514 = .ok (.iload_n 3, 1) := by decide +kernel
theorem dL_law_515 : decode cL_law 515 = .ok (.iconst 1, 1) := by decide +kernel
theorem dL_law_516 : decode cL_law 516 = .ok (.iadd, 1) := by decide +kernel
theorem dL_law_517 : decode cL_law 517 = .ok (.iaload, 1) := by decide +kernel
theorem dL_law_518 : decode cL_law 518 = .ok (.invokevirtual 60, 3) := by decide +kernel
theorem dL_law_521 : decode cL_law 521 = .ok (.aload_n 2, 1) := by decide +kernel
theorem dL_law_522 : decode cL_law 522 = .ok (.aload_n 0, 1) := by decide +kernel
theorem dL_law_523 : decode cL_law 523 = .ok (.iload_n 3, 1) := by decide +kernel
theorem dL_law_524 : decode cL_law 524 = .ok (.iconst 1, 1) := by decide +kernel
theorem dL_law_525 : decode cL_law 525 = .ok (.iadd, 1) := by decide +kernel
theorem dL_law_526 : decode cL_law 526 = .ok (.iaload, 1) := by decide +kernel
theorem dL_law_527 : decode cL_law 527 = .ok (.invokevirtual 63, 3) := by decide +kernel
theorem dL_law_530 : decode cL_law 530 = .ok (.if_icmp .eq 232, 3) := by decide +kernel
theorem dL_law_533 : decode cL_law 533 = .ok (.iconst 0, 1) := by decide +kernel
theorem dL_law_534 : decode cL_law 534 = .ok (.ireturn, 1) := by decide +kernel
theorem dL_law_535 : decode cL_law 535 = .ok (.aload_n 1, 1) := by decide +kernel
theorem dL_law_536 : decode cL_law 536 = .ok (.aload_n 0, 1) := by decide +kernel
theorem dL_law_537 : decode cL_law 537 = .ok (.iload_n 3, 1) := by decide +kernel
theorem dL_law_538 : decode cL_law 538 = .ok (.iconst 1, 1) := by decide +kernel
theorem dL_law_539 : decode cL_law 539 = .ok (.iadd, 1) := by decide +kernel
theorem dL_law_540 : decode cL_law 540 = .ok (.iaload, 1) := by decide +kernel
theorem dL_law_541 : decode cL_law 541 = .ok (.invokevirtual 64, 3) := by decide +kernel
theorem dL_law_544 : decode cL_law 544 = .ok (.aload_n 2, 1) := by decide +kernel
theorem dL_law_545 : decode cL_law 545 = .ok (.aload_n 0, 1) := by decide +kernel
theorem dL_law_546 : decode cL_law 546 = .ok (.iload_n 3, 1) := by decide +kernel
theorem dL_law_547 : decode cL_law 547 = .ok (.iconst 1, 1) := by decide +kernel
theorem dL_law_548 : decode cL_law 548 = .ok (.iadd, 1) := by decide +kernel
theorem dL_law_549 : decode cL_law 549 = .ok (.iaload, 1) := by decide +kernel
theorem dL_law_550 : decode cL_law 550 = .ok (.invokevirtual 67, 3) := by decide +kernel
theorem dL_law_553 : decode cL_law 553 = .ok (.if_icmp .eq 209, 3) := by decide +kernel
theorem dL_law_556 : decode cL_law 556 = .ok (.iconst 0, 1) := by decide +kernel
theorem dL_law_557 : decode cL_law 557 = .ok (.ireturn, 1) := by decide +kernel
theorem dL_law_558 : decode cL_law 558 = .ok (.aload_n 1, 1) := by decide +kernel
theorem dL_law_559 : decode cL_law 559 = .ok (.aload_n 0, 1) := by decide +kernel
theorem dL_law_560 : decode cL_law 560 = .ok (.iload_n 3, 1) := by decide +kernel
theorem dL_law_561 : decode cL_law 561 = .ok (.iconst 1, 1) := by decide +kernel
theorem dL_law_562 : decode cL_law 562 = .ok (.iadd, 1) := by decide +kernel
theorem dL_law_563 : decode cL_law 563 = .ok (.iaload, 1) := by decide +kernel
theorem dL_law_564 : decode cL_law 564 = .ok (.aload_n 0, 1) := by decide +kernel
theorem dL_law_565 : decode cL_law 565 = .ok (.iload_n 3, 1) := by decide +kernel
theorem dL_law_566 : decode cL_law 566 = .ok (.iconst 2, 1) := by decide +kernel
theorem dL_law_567 : decode cL_law 567 = .ok (.iadd, 1) := by decide +kernel
theorem dL_law_568 : decode cL_law 568 = .ok (.iaload, 1) := by decide +kernel
theorem dL_law_569 : decode cL_law 569 = .ok (.invokevirtual 68, 3) := by decide +kernel
theorem dL_law_572 : decode cL_law 572 = .ok (.aload_n 2, 1) := by decide +kernel
theorem dL_law_573 : decode cL_law 573 = .ok (.aload_n 0, 1) := by decide +kernel
theorem dL_law_574 : decode cL_law 574 = .ok (.iload_n 3, 1) := by decide +kernel
theorem dL_law_575 : decode cL_law 575 = .ok (.iconst 1, 1) := by decide +kernel
theorem dL_law_576 : decode cL_law 576 = .ok (.iadd, 1) := by decide +kernel
theorem dL_law_577 : decode cL_law 577 = .ok (.iaload, 1) := by decide +kernel
theorem dL_law_578 : decode cL_law 578 = .ok (.aload_n 0, 1) := by decide +kernel
theorem dL_law_579 : decode cL_law 579 = .ok (.iload_n 3, 1) := by decide +kernel
theorem dL_law_580 : decode cL_law 580 = .ok (.iconst 2, 1) := by decide +kernel
theorem dL_law_581 : decode cL_law 581 = .ok (.iadd, 1) := by decide +kernel
theorem dL_law_582 : decode cL_law 582 = .ok (.iaload, 1) := by decide +kernel
theorem dL_law_583 : decode cL_law 583 = .ok (.invokevirtual 71, 3) := by decide +kernel
theorem dL_law_586 : decode cL_law 586 = .ok (.if_icmp .eq 176, 3) := by decide +kernel
theorem dL_law_589 : decode cL_law 589 = .ok (.iconst 0, 1) := by decide +kernel
theorem dL_law_590 : decode cL_law 590 = .ok (.ireturn, 1) := by decide +kernel
theorem dL_law_591 : decode cL_law 591 = .ok (.aload_n 1, 1) := by decide +kernel
theorem dL_law_592 : decode cL_law 592 = .ok (.aload_n 0, 1) := by decide +kernel
theorem dL_law_593 : decode cL_law 593 = .ok (.iload_n 3, 1) := by decide +kernel
theorem dL_law_594 : decode cL_law 594 = .ok (.iconst 1, 1) := by decide +kernel
theorem dL_law_595 : decode cL_law 595 = .ok (.iadd, 1) := by decide +kernel
theorem dL_law_596 : decode cL_law 596 = .ok (.iaload, 1) := by decide +kernel
theorem dL_law_597 : decode cL_law 597 = .ok (.aload_n 0, 1) := by decide +kernel
theorem dL_law_598 : decode cL_law 598 = .ok (.iload_n 3, 1) := by decide +kernel
theorem dL_law_599 : decode cL_law 599 = .ok (.iconst 2, 1) := by decide +kernel
theorem dL_law_600 : decode cL_law 600 = .ok (.iadd, 1) := by decide +kernel
theorem dL_law_601 : decode cL_law 601 = .ok (.iaload, 1) := by decide +kernel
theorem dL_law_602 : decode cL_law 602 = .ok (.invokevirtual 72, 3) := by decide +kernel
theorem dL_law_605 : decode cL_law 605 = .ok (.aload_n 2, 1) := by decide +kernel
theorem dL_law_606 : decode cL_law 606 = .ok (.aload_n 0, 1) := by decide +kernel
theorem dL_law_607 : decode cL_law 607 = .ok (.iload_n 3, 1) := by decide +kernel
theorem dL_law_608 : decode cL_law 608 = .ok (.iconst 1, 1) := by decide +kernel
theorem dL_law_609 : decode cL_law 609 = .ok (.iadd, 1) := by decide +kernel
theorem dL_law_610 : decode cL_law 610 = .ok (.iaload, 1) := by decide +kernel
theorem dL_law_611 : decode cL_law 611 = .ok (.aload_n 0, 1) := by decide +kernel
theorem dL_law_612 : decode cL_law 612 = .ok (.iload_n 3, 1) := by decide +kernel
theorem dL_law_613 : decode cL_law 613 = .ok (.iconst 2, 1) := by decide +kernel
theorem dL_law_614 : decode cL_law 614 = .ok (.iadd, 1) := by decide +kernel
theorem dL_law_615 : decode cL_law 615 = .ok (.iaload, 1) := by decide +kernel
theorem dL_law_616 : decode cL_law 616 = .ok (.invokevirtual 75, 3) := by decide +kernel
theorem dL_law_619 : decode cL_law 619 = .ok (.if_icmp .eq 143, 3) := by decide +kernel
theorem dL_law_622 : decode cL_law 622 = .ok (.iconst 0, 1) := by decide +kernel
theorem dL_law_623 : decode cL_law 623 = .ok (.ireturn, 1) := by decide +kernel
theorem dL_law_624 : decode cL_law 624 = .ok (.aload_n 1, 1) := by decide +kernel
theorem dL_law_625 : decode cL_law 625 = .ok (.aload_n 0, 1) := by decide +kernel
theorem dL_law_626 : decode cL_law 626 = .ok (.iload_n 3, 1) := by decide +kernel
theorem dL_law_627 : decode cL_law 627 = .ok (.iconst 1, 1) := by decide +kernel
theorem dL_law_628 : decode cL_law 628 = .ok (.iadd, 1) := by decide +kernel
theorem dL_law_629 : decode cL_law 629 = .ok (.iaload, 1) := by decide +kernel
theorem dL_law_630 : decode cL_law 630 = .ok (.i2l, 1) := by decide +kernel
theorem dL_law_631 : decode cL_law 631 = .ok (.bipush 32, 2) := by decide +kernel
theorem dL_law_633 : decode cL_law 633 = .ok (.lshl, 1) := by decide +kernel
theorem dL_law_634 : decode cL_law 634 = .ok (.aload_n 0, 1) := by decide +kernel
theorem dL_law_635 : decode cL_law 635 = .ok (.iload_n 3, 1) := by decide +kernel
theorem dL_law_636 : decode cL_law 636 = .ok (.iconst 2, 1) := by decide +kernel
theorem dL_law_637 : decode cL_law 637 = .ok (.iadd, 1) := by decide +kernel
theorem dL_law_638 : decode cL_law 638 = .ok (.iaload, 1) := by decide +kernel
theorem dL_law_639 : decode cL_law 639 = .ok (.i2l, 1) := by decide +kernel
theorem dL_law_640 : decode cL_law 640 = .ok (.ldc2_w 76, 3) := by decide +kernel
theorem dL_law_643 : decode cL_law 643 = .ok (.land, 1) := by decide +kernel
theorem dL_law_644 : decode cL_law 644 = .ok (.lor, 1) := by decide +kernel
theorem dL_law_645 : decode cL_law 645 = .ok (.invokevirtual 78, 3) := by decide +kernel
theorem dL_law_648 : decode cL_law 648 = .ok (.aload_n 2, 1) := by decide +kernel
theorem dL_law_649 : decode cL_law 649 = .ok (.aload_n 0, 1) := by decide +kernel
theorem dL_law_650 : decode cL_law 650 = .ok (.iload_n 3, 1) := by decide +kernel
theorem dL_law_651 : decode cL_law 651 = .ok (.iconst 1, 1) := by decide +kernel
theorem dL_law_652 : decode cL_law 652 = .ok (.iadd, 1) := by decide +kernel
theorem dL_law_653 : decode cL_law 653 = .ok (.iaload, 1) := by decide +kernel
theorem dL_law_654 : decode cL_law 654 = .ok (.i2l, 1) := by decide +kernel
theorem dL_law_655 : decode cL_law 655 = .ok (.bipush 32, 2) := by decide +kernel
theorem dL_law_657 : decode cL_law 657 = .ok (.lshl, 1) := by decide +kernel
theorem dL_law_658 : decode cL_law 658 = .ok (.aload_n 0, 1) := by decide +kernel
theorem dL_law_659 : decode cL_law 659 = .ok (.iload_n 3, 1) := by decide +kernel
theorem dL_law_660 : decode cL_law 660 = .ok (.iconst 2, 1) := by decide +kernel
theorem dL_law_661 : decode cL_law 661 = .ok (.iadd, 1) := by decide +kernel
theorem dL_law_662 : decode cL_law 662 = .ok (.iaload, 1) := by decide +kernel
theorem dL_law_663 : decode cL_law 663 = .ok (.i2l, 1) := by decide +kernel
theorem dL_law_664 : decode cL_law 664 = .ok (.ldc2_w 76, 3) := by decide +kernel
theorem dL_law_667 : decode cL_law 667 = .ok (.land, 1) := by decide +kernel
theorem dL_law_668 : decode cL_law 668 = .ok (.lor, 1) := by decide +kernel
theorem dL_law_669 : decode cL_law 669 = .ok (.invokevirtual 82, 3) := by decide +kernel
theorem dL_law_672 : decode cL_law 672 = .ok (.if_icmp .eq 90, 3) := by decide +kernel
theorem dL_law_675 : decode cL_law 675 = .ok (.iconst 0, 1) := by decide +kernel
theorem dL_law_676 : decode cL_law 676 = .ok (.ireturn, 1) := by decide +kernel
theorem dL_law_677 : decode cL_law 677 = .ok (.aload_n 1, 1) := by decide +kernel
theorem dL_law_678 : decode cL_law 678 = .ok (.invokevirtual 83, 3) := by decide +kernel
theorem dL_law_681 : decode cL_law 681 = .ok (.aload_n 2, 1) := by decide +kernel
theorem dL_law_682 : decode cL_law 682 = .ok (.invokevirtual 86, 3) := by decide +kernel
theorem dL_law_685 : decode cL_law 685 = .ok (.if_icmp .eq 77, 3) := by decide +kernel
theorem dL_law_688 : decode cL_law 688 = .ok (.iconst 0, 1) := by decide +kernel
theorem dL_law_689 : decode cL_law 689 = .ok (.ireturn, 1) := by decide +kernel
theorem dL_law_690 : decode cL_law 690 = .ok (.aload_n 1, 1) := by decide +kernel
theorem dL_law_691 : decode cL_law 691 = .ok (.invokevirtual 87, 3) := by decide +kernel
theorem dL_law_694 : decode cL_law 694 = .ok (.aload_n 2, 1) := by decide +kernel
theorem dL_law_695 : decode cL_law 695 = .ok (.invokevirtual 90, 3) := by decide +kernel
theorem dL_law_698 : decode cL_law 698 = .ok (.if_icmp .eq 64, 3) := by decide +kernel
theorem dL_law_701 : decode cL_law 701 = .ok (.iconst 0, 1) := by decide +kernel
theorem dL_law_702 : decode cL_law 702 = .ok (.ireturn, 1) := by decide +kernel
theorem dL_law_703 : decode cL_law 703 = .ok (.aload_n 1, 1) := by decide +kernel
theorem dL_law_704 : decode cL_law 704 = .ok (.invokevirtual 91, 3) := by decide +kernel
theorem dL_law_707 : decode cL_law 707 = .ok (.aload_n 2, 1) := by decide +kernel
theorem dL_law_708 : decode cL_law 708 = .ok (.invokevirtual 94, 3) := by decide +kernel
theorem dL_law_711 : decode cL_law 711 = .ok (.if_icmp .eq 51, 3) := by decide +kernel
theorem dL_law_714 : decode cL_law 714 = .ok (.iconst 0, 1) := by decide +kernel
theorem dL_law_715 : decode cL_law 715 = .ok (.ireturn, 1) := by decide +kernel
theorem dL_law_716 : decode cL_law 716 = .ok (.aload_n 1, 1) := by decide +kernel
theorem dL_law_717 : decode cL_law 717 = .ok (.aload_n 0, 1) := by decide +kernel
theorem dL_law_718 : decode cL_law 718 = .ok (.iload_n 3, 1) := by decide +kernel
theorem dL_law_719 : decode cL_law 719 = .ok (.iconst 1, 1) := by decide +kernel
theorem dL_law_720 : decode cL_law 720 = .ok (.iadd, 1) := by decide +kernel
theorem dL_law_721 : decode cL_law 721 = .ok (.iaload, 1) := by decide +kernel
theorem dL_law_722 : decode cL_law 722 = .ok (.invokevirtual 95, 3) := by decide +kernel
theorem dL_law_725 : decode cL_law 725 = .ok (.aload_n 2, 1) := by decide +kernel
theorem dL_law_726 : decode cL_law 726 = .ok (.aload_n 0, 1) := by decide +kernel
theorem dL_law_727 : decode cL_law 727 = .ok (.iload_n 3, 1) := by decide +kernel
theorem dL_law_728 : decode cL_law 728 = .ok (.iconst 1, 1) := by decide +kernel
theorem dL_law_729 : decode cL_law 729 = .ok (.iadd, 1) := by decide +kernel
theorem dL_law_730 : decode cL_law 730 = .ok (.iaload, 1) := by decide +kernel
theorem dL_law_731 : decode cL_law 731 = .ok (.invokevirtual 98, 3) := by decide +kernel
theorem dL_law_734 : decode cL_law 734 = .ok (.if_icmp .eq 28, 3) := by decide +kernel
theorem dL_law_737 : decode cL_law 737 = .ok (.iconst 0, 1) := by decide +kernel
theorem dL_law_738 : decode cL_law 738 = .ok (.ireturn, 1) := by decide +kernel
theorem dL_law_739 : decode cL_law 739 = .ok (.aload_n 1, 1) := by decide +kernel
theorem dL_law_740 : decode cL_law 740 = .ok (.aload_n 0, 1) := by decide +kernel
theorem dL_law_741 : decode cL_law 741 = .ok (.iload_n 3, 1) := by decide +kernel
theorem dL_law_742 : decode cL_law 742 = .ok (.iconst 1, 1) := by decide +kernel
theorem dL_law_743 : decode cL_law 743 = .ok (.iadd, 1) := by decide +kernel
theorem dL_law_744 : decode cL_law 744 = .ok (.iaload, 1) := by decide +kernel
theorem dL_law_745 : decode cL_law 745 = .ok (.invokevirtual 99, 3) := by decide +kernel
theorem dL_law_748 : decode cL_law 748 = .ok (.aload_n 2, 1) := by decide +kernel
theorem dL_law_749 : decode cL_law 749 = .ok (.aload_n 0, 1) := by decide +kernel
theorem dL_law_750 : decode cL_law 750 = .ok (.iload_n 3, 1) := by decide +kernel
theorem dL_law_751 : decode cL_law 751 = .ok (.iconst 1, 1) := by decide +kernel
theorem dL_law_752 : decode cL_law 752 = .ok (.iadd, 1) := by decide +kernel
theorem dL_law_753 : decode cL_law 753 = .ok (.iaload, 1) := by decide +kernel
theorem dL_law_754 : decode cL_law 754 = .ok (.invokevirtual 102, 3) := by decide +kernel
theorem dL_law_757 : decode cL_law 757 = .ok (.if_icmp .eq 5, 3) := by decide +kernel
theorem dL_law_760 : decode cL_law 760 = .ok (.iconst 0, 1) := by decide +kernel
theorem dL_law_761 : decode cL_law 761 = .ok (.ireturn, 1) := by decide +kernel
theorem dL_law_762 : decode cL_law 762 = .ok (.iinc 3 5, 3) := by decide +kernel
theorem dL_law_765 : decode cL_law 765 = .ok (.goto (-747), 3) := by decide +kernel
theorem dL_law_768 : decode cL_law 768 = .ok (.iconst 1, 1) := by decide +kernel
theorem dL_law_769 : decode cL_law 769 = .ok (.ireturn, 1) := by decide +kernel
abbrev vwCl : List vw_C := [(RX0, TX0, 3), (RX1, TX1, 2), (RX2, TX2, 5), (RX3, TX3, 10), (RX4, TX4, 7), (RX5, TX5, 17)]
