/-! the plain functions of GlassSpill -/
def P (c k : Nat) : Nat := c / 2 ^ (4 * (2 - k)) % 16
theorem P_lt (c k : Nat) : P c k < 16 := Nat.mod_lt _ (by decide)
def dist (a b : Nat) : Nat := ((P a 0 - P b 0) + (P b 0 - P a 0)) + ((P a 1 - P b 1) + (P b 1 - P a 1)) + ((P a 2 - P b 2) + (P b 2 - P a 2))
theorem dist_le (a b : Nat) : dist a b ≤ 45 := by
  have h1 := P_lt a 0
  have h2 := P_lt a 1
  have h3 := P_lt a 2
  have h4 := P_lt b 0
  have h5 := P_lt b 1
  have h6 := P_lt b 2
  unfold dist
  omega
def mainP (s : Nat) : Nat := if P s 1 ≤ P s 0 ∧ P s 2 ≤ P s 0 then 0 else if P s 2 ≤ P s 1 then 1 else 2
theorem mainP_lt (s : Nat) : mainP s < 3 := by unfold mainP; split; omega; split <;> omega
/-- the spill of a colour by its part m -/
def spl (c m : Nat) : Nat := P c m - max (P c ((m + 1) % 3)) (P c ((m + 2) % 3))
theorem spl_lt (c m : Nat) : spl c m < 16 := by have := P_lt c m; unfold spl; omega
abbrev rm_c_X4_isPixel : Room := { frames := 0, cells := 0, slots := 0, locals := 0 }
theorem hd_X4_isPixel : yX4_isPixel.cls ≠ "java/lang/invoke/MethodHandle" ∧ yX4_isPixel.cls ≠ "java/lang/invoke/VarHandle" ∧ (parseMethodDescriptor yX4_isPixel.desc).map (fun d => d.parameters.length) = some 1 := by decide +kernel
set_option maxRecDepth 100000 in
set_option maxHeartbeats 8000000 in
theorem c_X4_isPixel (G : VC) (x : Int32) : Ctr yX4_isPixel wsX4_isPixel rm_c_X4_isPixel G [.int (x)] (bl []) (fun v u => u = (bl []) ∧ v = some (.int (nI (bN (okI 48 x))))) := by
  refine Ctr.int (cc := cX4_isPixel) (maxL := 1) (ret := (some .boolean)) (lv0 := [some (.int (x))]) (by decide) rfl rfl rfl (Nat.le_of_ble_eq_true rfl) rfl (fun A X E hend => ?_)
  refine V.iload_n E dX4_isPixel_0 rfl rfl ?_
  refine V.if_lt (tgt := 14) E dX4_isPixel_1 (by decide) (fun h1 => ?_) (fun h1 => ?_)
  · refine V.iconst (v := nI (0)) E dX4_isPixel_14 (by decide) ?_
    refine V.topN (b := bN (okI 48 x)) (by first | rw [bN_f (okI_lt h1)] | rw [bN_f (okI_ge h7 (by decide))] | rw [bN_t (okI_of h1 h7 (by decide))]) ?_
    exact hend _ _ _ _ dX4_isPixel_15 (nrB _) ⟨rfl, rfl⟩
  · refine V.iload_n E dX4_isPixel_4 rfl rfl ?_
    refine V.bipush (v := nI (48)) E dX4_isPixel_5 (by decide) ?_
    refine V.icmp_ge (tgt := 14) E dX4_isPixel_7 (by decide) (fun h7 => ?_) (fun h7 => ?_)
    · refine V.iconst (v := nI (0)) E dX4_isPixel_14 (by decide) ?_
      refine V.topN (b := bN (okI 48 x)) (by first | rw [bN_f (okI_lt h1)] | rw [bN_f (okI_ge h7 (by decide))] | rw [bN_t (okI_of h1 h7 (by decide))]) ?_
      exact hend _ _ _ _ dX4_isPixel_15 (nrB _) ⟨rfl, rfl⟩
    · refine V.iconst (v := nI (1)) E dX4_isPixel_10 (by decide) ?_
      refine V.goto (tgt := 15) E dX4_isPixel_11 (by decide) ?_
      refine V.topN (b := bN (okI 48 x)) (by first | rw [bN_f (okI_lt h1)] | rw [bN_f (okI_ge h7 (by decide))] | rw [bN_t (okI_of h1 h7 (by decide))]) ?_
      exact hend _ _ _ _ dX4_isPixel_15 (nrB _) ⟨rfl, rfl⟩
abbrev rm_c_X4_isRow : Room := { frames := 0, cells := 0, slots := 0, locals := 0 }
theorem hd_X4_isRow : yX4_isRow.cls ≠ "java/lang/invoke/MethodHandle" ∧ yX4_isRow.cls ≠ "java/lang/invoke/VarHandle" ∧ (parseMethodDescriptor yX4_isRow.desc).map (fun d => d.parameters.length) = some 1 := by decide +kernel
set_option maxRecDepth 100000 in
set_option maxHeartbeats 8000000 in
theorem c_X4_isRow (G : VC) (x : Int32) : Ctr yX4_isRow wsX4_isRow rm_c_X4_isRow G [.int (x)] (bl []) (fun v u => u = (bl []) ∧ v = some (.int (nI (bN (okI 6 x))))) := by
  refine Ctr.int (cc := cX4_isRow) (maxL := 1) (ret := (some .boolean)) (lv0 := [some (.int (x))]) (by decide) rfl rfl rfl (Nat.le_of_ble_eq_true rfl) rfl (fun A X E hend => ?_)
  refine V.iload_n E dX4_isRow_0 rfl rfl ?_
  refine V.if_lt (tgt := 14) E dX4_isRow_1 (by decide) (fun h1 => ?_) (fun h1 => ?_)
  · refine V.iconst (v := nI (0)) E dX4_isRow_14 (by decide) ?_
    refine V.topN (b := bN (okI 6 x)) (by first | rw [bN_f (okI_lt h1)] | rw [bN_f (okI_ge h7 (by decide))] | rw [bN_t (okI_of h1 h7 (by decide))]) ?_
    exact hend _ _ _ _ dX4_isRow_15 (nrB _) ⟨rfl, rfl⟩
  · refine V.iload_n E dX4_isRow_4 rfl rfl ?_
    refine V.bipush (v := nI (6)) E dX4_isRow_5 (by decide) ?_
    refine V.icmp_ge (tgt := 14) E dX4_isRow_7 (by decide) (fun h7 => ?_) (fun h7 => ?_)
    · refine V.iconst (v := nI (0)) E dX4_isRow_14 (by decide) ?_
      refine V.topN (b := bN (okI 6 x)) (by first | rw [bN_f (okI_lt h1)] | rw [bN_f (okI_ge h7 (by decide))] | rw [bN_t (okI_of h1 h7 (by decide))]) ?_
      exact hend _ _ _ _ dX4_isRow_15 (nrB _) ⟨rfl, rfl⟩
    · refine V.iconst (v := nI (1)) E dX4_isRow_10 (by decide) ?_
      refine V.goto (tgt := 15) E dX4_isRow_11 (by decide) ?_
      refine V.topN (b := bN (okI 6 x)) (by first | rw [bN_f (okI_lt h1)] | rw [bN_f (okI_ge h7 (by decide))] | rw [bN_t (okI_of h1 h7 (by decide))]) ?_
      exact hend _ _ _ _ dX4_isRow_15 (nrB _) ⟨rfl, rfl⟩
abbrev rm_c_X4_isColour : Room := { frames := 0, cells := 0, slots := 0, locals := 0 }
theorem hd_X4_isColour : yX4_isColour.cls ≠ "java/lang/invoke/MethodHandle" ∧ yX4_isColour.cls ≠ "java/lang/invoke/VarHandle" ∧ (parseMethodDescriptor yX4_isColour.desc).map (fun d => d.parameters.length) = some 1 := by decide +kernel
set_option maxRecDepth 100000 in
set_option maxHeartbeats 8000000 in
theorem c_X4_isColour (G : VC) (x : Int32) : Ctr yX4_isColour wsX4_isColour rm_c_X4_isColour G [.int (x)] (bl []) (fun v u => u = (bl []) ∧ v = some (.int (nI (bN (okI 4096 x))))) := by
  refine Ctr.int (cc := cX4_isColour) (maxL := 1) (ret := (some .boolean)) (lv0 := [some (.int (x))]) (by decide) rfl rfl rfl (Nat.le_of_ble_eq_true rfl) rfl (fun A X E hend => ?_)
  refine V.iload_n E dX4_isColour_0 rfl rfl ?_
  refine V.if_lt (tgt := 15) E dX4_isColour_1 (by decide) (fun h1 => ?_) (fun h1 => ?_)
  · refine V.iconst (v := nI (0)) E dX4_isColour_15 (by decide) ?_
    refine V.topN (b := bN (okI 4096 x)) (by first | rw [bN_f (okI_lt h1)] | rw [bN_f (okI_ge h8 (by decide))] | rw [bN_t (okI_of h1 h8 (by decide))]) ?_
    exact hend _ _ _ _ dX4_isColour_16 (nrB _) ⟨rfl, rfl⟩
  · refine V.iload_n E dX4_isColour_4 rfl rfl ?_
    refine V.sipush (v := nI (4096)) E dX4_isColour_5 (by decide) ?_
    refine V.icmp_ge (tgt := 15) E dX4_isColour_8 (by decide) (fun h8 => ?_) (fun h8 => ?_)
    · refine V.iconst (v := nI (0)) E dX4_isColour_15 (by decide) ?_
      refine V.topN (b := bN (okI 4096 x)) (by first | rw [bN_f (okI_lt h1)] | rw [bN_f (okI_ge h8 (by decide))] | rw [bN_t (okI_of h1 h8 (by decide))]) ?_
      exact hend _ _ _ _ dX4_isColour_16 (nrB _) ⟨rfl, rfl⟩
    · refine V.iconst (v := nI (1)) E dX4_isColour_11 (by decide) ?_
      refine V.goto (tgt := 16) E dX4_isColour_12 (by decide) ?_
      refine V.topN (b := bN (okI 4096 x)) (by first | rw [bN_f (okI_lt h1)] | rw [bN_f (okI_ge h8 (by decide))] | rw [bN_t (okI_of h1 h8 (by decide))]) ?_
      exact hend _ _ _ _ dX4_isColour_16 (nrB _) ⟨rfl, rfl⟩
abbrev rm_c_X4_isSlot : Room := { frames := 0, cells := 0, slots := 0, locals := 0 }
theorem hd_X4_isSlot : yX4_isSlot.cls ≠ "java/lang/invoke/MethodHandle" ∧ yX4_isSlot.cls ≠ "java/lang/invoke/VarHandle" ∧ (parseMethodDescriptor yX4_isSlot.desc).map (fun d => d.parameters.length) = some 1 := by decide +kernel
set_option maxRecDepth 100000 in
set_option maxHeartbeats 8000000 in
theorem c_X4_isSlot (G : VC) (x : Int32) : Ctr yX4_isSlot wsX4_isSlot rm_c_X4_isSlot G [.int (x)] (bl []) (fun v u => u = (bl []) ∧ v = some (.int (nI (bN (okI 2 x))))) := by
  refine Ctr.int (cc := cX4_isSlot) (maxL := 1) (ret := (some .boolean)) (lv0 := [some (.int (x))]) (by decide) rfl rfl rfl (Nat.le_of_ble_eq_true rfl) rfl (fun A X E hend => ?_)
  refine V.iload_n E dX4_isSlot_0 rfl rfl ?_
  refine V.if_lt (tgt := 13) E dX4_isSlot_1 (by decide) (fun h1 => ?_) (fun h1 => ?_)
  · refine V.iconst (v := nI (0)) E dX4_isSlot_13 (by decide) ?_
    refine V.topN (b := bN (okI 2 x)) (by first | rw [bN_f (okI_lt h1)] | rw [bN_f (okI_ge h6 (by decide))] | rw [bN_t (okI_of h1 h6 (by decide))]) ?_
    exact hend _ _ _ _ dX4_isSlot_14 (nrB _) ⟨rfl, rfl⟩
  · refine V.iload_n E dX4_isSlot_4 rfl rfl ?_
    refine V.iconst (v := nI (2)) E dX4_isSlot_5 (by decide) ?_
    refine V.icmp_ge (tgt := 13) E dX4_isSlot_6 (by decide) (fun h6 => ?_) (fun h6 => ?_)
    · refine V.iconst (v := nI (0)) E dX4_isSlot_13 (by decide) ?_
      refine V.topN (b := bN (okI 2 x)) (by first | rw [bN_f (okI_lt h1)] | rw [bN_f (okI_ge h6 (by decide))] | rw [bN_t (okI_of h1 h6 (by decide))]) ?_
      exact hend _ _ _ _ dX4_isSlot_14 (nrB _) ⟨rfl, rfl⟩
    · refine V.iconst (v := nI (1)) E dX4_isSlot_9 (by decide) ?_
      refine V.goto (tgt := 14) E dX4_isSlot_10 (by decide) ?_
      refine V.topN (b := bN (okI 2 x)) (by first | rw [bN_f (okI_lt h1)] | rw [bN_f (okI_ge h6 (by decide))] | rw [bN_t (okI_of h1 h6 (by decide))]) ?_
      exact hend _ _ _ _ dX4_isSlot_14 (nrB _) ⟨rfl, rfl⟩
abbrev rm_c_X4_isSetting : Room := { frames := 0, cells := 0, slots := 0, locals := 0 }
theorem hd_X4_isSetting : yX4_isSetting.cls ≠ "java/lang/invoke/MethodHandle" ∧ yX4_isSetting.cls ≠ "java/lang/invoke/VarHandle" ∧ (parseMethodDescriptor yX4_isSetting.desc).map (fun d => d.parameters.length) = some 1 := by decide +kernel
set_option maxRecDepth 100000 in
set_option maxHeartbeats 8000000 in
theorem c_X4_isSetting (G : VC) (x : Int32) : Ctr yX4_isSetting wsX4_isSetting rm_c_X4_isSetting G [.int (x)] (bl []) (fun v u => u = (bl []) ∧ v = some (.int (nI (bN (okI 6 x))))) := by
  refine Ctr.int (cc := cX4_isSetting) (maxL := 1) (ret := (some .boolean)) (lv0 := [some (.int (x))]) (by decide) rfl rfl rfl (Nat.le_of_ble_eq_true rfl) rfl (fun A X E hend => ?_)
  refine V.iload_n E dX4_isSetting_0 rfl rfl ?_
  refine V.if_lt (tgt := 14) E dX4_isSetting_1 (by decide) (fun h1 => ?_) (fun h1 => ?_)
  · refine V.iconst (v := nI (0)) E dX4_isSetting_14 (by decide) ?_
    refine V.topN (b := bN (okI 6 x)) (by first | rw [bN_f (okI_lt h1)] | rw [bN_f (okI_ge h7 (by decide))] | rw [bN_t (okI_of h1 h7 (by decide))]) ?_
    exact hend _ _ _ _ dX4_isSetting_15 (nrB _) ⟨rfl, rfl⟩
  · refine V.iload_n E dX4_isSetting_4 rfl rfl ?_
    refine V.bipush (v := nI (6)) E dX4_isSetting_5 (by decide) ?_
    refine V.icmp_ge (tgt := 14) E dX4_isSetting_7 (by decide) (fun h7 => ?_) (fun h7 => ?_)
    · refine V.iconst (v := nI (0)) E dX4_isSetting_14 (by decide) ?_
      refine V.topN (b := bN (okI 6 x)) (by first | rw [bN_f (okI_lt h1)] | rw [bN_f (okI_ge h7 (by decide))] | rw [bN_t (okI_of h1 h7 (by decide))]) ?_
      exact hend _ _ _ _ dX4_isSetting_15 (nrB _) ⟨rfl, rfl⟩
    · refine V.iconst (v := nI (1)) E dX4_isSetting_10 (by decide) ?_
      refine V.goto (tgt := 15) E dX4_isSetting_11 (by decide) ?_
      refine V.topN (b := bN (okI 6 x)) (by first | rw [bN_f (okI_lt h1)] | rw [bN_f (okI_ge h7 (by decide))] | rw [bN_t (okI_of h1 h7 (by decide))]) ?_
      exact hend _ _ _ _ dX4_isSetting_15 (nrB _) ⟨rfl, rfl⟩
abbrev rm_c_X4_partShift : Room := { frames := 0, cells := 0, slots := 0, locals := 0 }
theorem hd_X4_partShift : yX4_partShift.cls ≠ "java/lang/invoke/MethodHandle" ∧ yX4_partShift.cls ≠ "java/lang/invoke/VarHandle" ∧ (parseMethodDescriptor yX4_partShift.desc).map (fun d => d.parameters.length) = some 1 := by decide +kernel
set_option maxRecDepth 100000 in
set_option maxHeartbeats 8000000 in
theorem c_X4_partShift (G : VC) (k : Nat) (hk : k < 3) : Ctr yX4_partShift wsX4_partShift rm_c_X4_partShift G [.int (nI (k))] (bl []) (fun v u => u = (bl []) ∧ v = some (.int (nI (4 * (2 - k))))) := by
  refine Ctr.int (cc := cX4_partShift) (maxL := 1) (ret := (some .int)) (lv0 := [some (.int (nI (k)))]) (by decide) rfl rfl rfl (Nat.le_of_ble_eq_true rfl) rfl (fun A X E hend => ?_)
  refine V.iconst (v := nI (4)) E dX4_partShift_0 (by decide) ?_
  refine V.iconst (v := nI (2)) E dX4_partShift_1 (by decide) ?_
  refine V.iload_n E dX4_partShift_2 rfl rfl ?_
  refine V.isubN E (by omega) dX4_partShift_3 ?_
  refine V.imulN E  dX4_partShift_4 ?_
  exact hend _ _ _ _ dX4_partShift_5 (nrI _) ⟨rfl, rfl⟩
abbrev rm_c_X4_part : Room := { frames := 1, cells := 0, slots := 0, locals := 20 }
theorem hd_X4_part : yX4_part.cls ≠ "java/lang/invoke/MethodHandle" ∧ yX4_part.cls ≠ "java/lang/invoke/VarHandle" ∧ (parseMethodDescriptor yX4_part.desc).map (fun d => d.parameters.length) = some 2 := by decide +kernel
set_option maxRecDepth 100000 in
set_option maxHeartbeats 8000000 in
theorem c_X4_part (G : VC) (c : Nat) (k : Nat) (hc : c < 4096) (hk : k < 3) : Ctr yX4_part wsX4_part rm_c_X4_part G [.int (nI (c)), .int (nI (k))] (bl []) (fun v u => u = (bl []) ∧ v = some (.int (nI (P c k)))) := by
  refine Ctr.int (cc := cX4_part) (maxL := 2) (ret := (some .int)) (lv0 := [some (.int (nI (c))), some (.int (nI (k)))]) (by decide) rfl rfl rfl (Nat.le_of_ble_eq_true rfl) rfl (fun A X E hend => ?_)
  refine V.iload_n E dX4_part_0 rfl rfl ?_
  refine V.iload_n E dX4_part_1 rfl rfl ?_
  refine V.callS E (c_X4_partShift G k (by omega)) (bl []) [.int (nI (c))] gX4_part_X4_partShift rfl hd_X4_partShift ⟨⟨Nat.le_of_ble_eq_true rfl, Nat.le_of_ble_eq_true rfl⟩, Nat.le_of_ble_eq_true rfl, Nat.le_of_ble_eq_true rfl⟩ rfl (Nat.le_of_ble_eq_true rfl) rfl dX4_part_2 (List.Perm.refl _) (kc' := 0) (ks' := 0) rfl rfl (rwI (ws' := (bl [])) (List.Perm.refl _) ?_)
  refine V.ishrN E (by omega) (by omega) dX4_part_5 ?_
  refine V.bipush (v := nI (15)) E dX4_part_6 (by decide) ?_
  refine V.iand15 E (by omega) dX4_part_8 ?_
  refine V.topN (b := P c k) (rfl) ?_
  exact hend _ _ _ _ dX4_part_9 (nrI _) ⟨rfl, rfl⟩
