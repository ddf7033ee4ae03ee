/-! the plain functions of GlassSpill -/
def P (c k : Nat) : Nat := c / 2 ^ (4 * (2 - k)) % 16
theorem P_lt (c k : Nat) : P c k < 16 := Nat.mod_lt _ (by decide)
def dist (a b : Nat) : Nat := ((P a 0 - P b 0) + (P b 0 - P a 0)) + ((P a 1 - P b 1) + (P b 1 - P a 1)) + ((P a 2 - P b 2) + (P b 2 - P a 2))
theorem dist_le (a b : Nat) : dist a b ≤ 45 := by
  have h1 := P_lt a 0
  have h2 := P_lt a 1
  have h3 := P_lt a 2
  have h4 := P_lt b 0
  have h5 := P_lt b 1
  have h6 := P_lt b 2
  unfold dist
  omega
def mainP (s : Nat) : Nat := if P s 1 ≤ P s 0 ∧ P s 2 ≤ P s 0 then 0 else if P s 2 ≤ P s 1 then 1 else 2
theorem mainP_lt (s : Nat) : mainP s < 3 := by unfold mainP; split; omega; split <;> omega
/-- the spill of a colour by its part m -/
def spl (c m : Nat) : Nat := P c m - max (P c ((m + 1) % 3)) (P c ((m + 2) % 3))
theorem spl_lt (c m : Nat) : spl c m < 16 := by have := P_lt c m; unfold spl; omega
abbrev rm_c_X4_isPixel : Room := { frames := 0, cells := 0, slots := 0, locals := 0 }
theorem hd_X4_isPixel : yX4_isPixel.cls ≠ "java/lang/invoke/MethodHandle" ∧ yX4_isPixel.cls ≠ "java/lang/invoke/VarHandle" ∧ (parseMethodDescriptor yX4_isPixel.desc).map (fun d => d.parameters.length) = some 1 := by decide +kernel
set_option maxRecDepth 100000 in
set_option maxHeartbeats 8000000 in
theorem c_X4_isPixel (G : VC) (x : Int32) : Ctr yX4_isPixel wsX4_isPixel rm_c_X4_isPixel G [.int (x)] (bl []) (fun v9_ u9_ => u9_ = (bl []) ∧ v9_ = some (.int (nI (bN (okI 48 x))))) := by
  refine Ctr.int (cc := cX4_isPixel) (maxL := 1) (ret := (some .boolean)) (lv0 := [some (.int (x))]) (by decide) rfl rfl rfl (Nat.le_of_ble_eq_true rfl) rfl (fun A X E hend => ?_)
  refine V.iload_n E dX4_isPixel_0 rfl rfl ?_
  refine V.if_lt (tgt := 14) E dX4_isPixel_1 (by decide) (fun q_1 => ?_) (fun q_1 => ?_)
  · refine V.iconst (v := nI (0)) E dX4_isPixel_14 (by decide) ?_
    refine V.topN (b := bN (okI 48 x)) (by first | rw [bN_f (okI_lt q_1)] | rw [bN_f (okI_ge q_7 (by decide))] | rw [bN_t (okI_of q_1 q_7 (by decide))]) ?_
    exact hend _ _ _ _ dX4_isPixel_15 (nrB _) ⟨rfl, rfl⟩
  · refine V.iload_n E dX4_isPixel_4 rfl rfl ?_
    refine V.bipush (v := nI (48)) E dX4_isPixel_5 (by decide) ?_
    refine V.icmp_ge (tgt := 14) E dX4_isPixel_7 (by decide) (fun q_7 => ?_) (fun q_7 => ?_)
    · refine V.iconst (v := nI (0)) E dX4_isPixel_14 (by decide) ?_
      refine V.topN (b := bN (okI 48 x)) (by first | rw [bN_f (okI_lt q_1)] | rw [bN_f (okI_ge q_7 (by decide))] | rw [bN_t (okI_of q_1 q_7 (by decide))]) ?_
      exact hend _ _ _ _ dX4_isPixel_15 (nrB _) ⟨rfl, rfl⟩
    · refine V.iconst (v := nI (1)) E dX4_isPixel_10 (by decide) ?_
      refine V.goto (tgt := 15) E dX4_isPixel_11 (by decide) ?_
      refine V.topN (b := bN (okI 48 x)) (by first | rw [bN_f (okI_lt q_1)] | rw [bN_f (okI_ge q_7 (by decide))] | rw [bN_t (okI_of q_1 q_7 (by decide))]) ?_
      exact hend _ _ _ _ dX4_isPixel_15 (nrB _) ⟨rfl, rfl⟩
abbrev rm_c_X4_isRow : Room := { frames := 0, cells := 0, slots := 0, locals := 0 }
theorem hd_X4_isRow : yX4_isRow.cls ≠ "java/lang/invoke/MethodHandle" ∧ yX4_isRow.cls ≠ "java/lang/invoke/VarHandle" ∧ (parseMethodDescriptor yX4_isRow.desc).map (fun d => d.parameters.length) = some 1 := by decide +kernel
set_option maxRecDepth 100000 in
set_option maxHeartbeats 8000000 in
theorem c_X4_isRow (G : VC) (x : Int32) : Ctr yX4_isRow wsX4_isRow rm_c_X4_isRow G [.int (x)] (bl []) (fun v9_ u9_ => u9_ = (bl []) ∧ v9_ = some (.int (nI (bN (okI 6 x))))) := by
  refine Ctr.int (cc := cX4_isRow) (maxL := 1) (ret := (some .boolean)) (lv0 := [some (.int (x))]) (by decide) rfl rfl rfl (Nat.le_of_ble_eq_true rfl) rfl (fun A X E hend => ?_)
  refine V.iload_n E dX4_isRow_0 rfl rfl ?_
  refine V.if_lt (tgt := 14) E dX4_isRow_1 (by decide) (fun q_1 => ?_) (fun q_1 => ?_)
  · refine V.iconst (v := nI (0)) E dX4_isRow_14 (by decide) ?_
    refine V.topN (b := bN (okI 6 x)) (by first | rw [bN_f (okI_lt q_1)] | rw [bN_f (okI_ge q_7 (by decide))] | rw [bN_t (okI_of q_1 q_7 (by decide))]) ?_
    exact hend _ _ _ _ dX4_isRow_15 (nrB _) ⟨rfl, rfl⟩
  · refine V.iload_n E dX4_isRow_4 rfl rfl ?_
    refine V.bipush (v := nI (6)) E dX4_isRow_5 (by decide) ?_
    refine V.icmp_ge (tgt := 14) E dX4_isRow_7 (by decide) (fun q_7 => ?_) (fun q_7 => ?_)
    · refine V.iconst (v := nI (0)) E dX4_isRow_14 (by decide) ?_
      refine V.topN (b := bN (okI 6 x)) (by first | rw [bN_f (okI_lt q_1)] | rw [bN_f (okI_ge q_7 (by decide))] | rw [bN_t (okI_of q_1 q_7 (by decide))]) ?_
      exact hend _ _ _ _ dX4_isRow_15 (nrB _) ⟨rfl, rfl⟩
    · refine V.iconst (v := nI (1)) E dX4_isRow_10 (by decide) ?_
      refine V.goto (tgt := 15) E dX4_isRow_11 (by decide) ?_
      refine V.topN (b := bN (okI 6 x)) (by first | rw [bN_f (okI_lt q_1)] | rw [bN_f (okI_ge q_7 (by decide))] | rw [bN_t (okI_of q_1 q_7 (by decide))]) ?_
      exact hend _ _ _ _ dX4_isRow_15 (nrB _) ⟨rfl, rfl⟩
abbrev rm_c_X4_isColour : Room := { frames := 0, cells := 0, slots := 0, locals := 0 }
theorem hd_X4_isColour : yX4_isColour.cls ≠ "java/lang/invoke/MethodHandle" ∧ yX4_isColour.cls ≠ "java/lang/invoke/VarHandle" ∧ (parseMethodDescriptor yX4_isColour.desc).map (fun d => d.parameters.length) = some 1 := by decide +kernel
set_option maxRecDepth 100000 in
set_option maxHeartbeats 8000000 in
theorem c_X4_isColour (G : VC) (x : Int32) : Ctr yX4_isColour wsX4_isColour rm_c_X4_isColour G [.int (x)] (bl []) (fun v9_ u9_ => u9_ = (bl []) ∧ v9_ = some (.int (nI (bN (okI 4096 x))))) := by
  refine Ctr.int (cc := cX4_isColour) (maxL := 1) (ret := (some .boolean)) (lv0 := [some (.int (x))]) (by decide) rfl rfl rfl (Nat.le_of_ble_eq_true rfl) rfl (fun A X E hend => ?_)
  refine V.iload_n E dX4_isColour_0 rfl rfl ?_
  refine V.if_lt (tgt := 15) E dX4_isColour_1 (by decide) (fun q_1 => ?_) (fun q_1 => ?_)
  · refine V.iconst (v := nI (0)) E dX4_isColour_15 (by decide) ?_
    refine V.topN (b := bN (okI 4096 x)) (by first | rw [bN_f (okI_lt q_1)] | rw [bN_f (okI_ge q_8 (by decide))] | rw [bN_t (okI_of q_1 q_8 (by decide))]) ?_
    exact hend _ _ _ _ dX4_isColour_16 (nrB _) ⟨rfl, rfl⟩
  · refine V.iload_n E dX4_isColour_4 rfl rfl ?_
    refine V.sipush (v := nI (4096)) E dX4_isColour_5 (by decide) ?_
    refine V.icmp_ge (tgt := 15) E dX4_isColour_8 (by decide) (fun q_8 => ?_) (fun q_8 => ?_)
    · refine V.iconst (v := nI (0)) E dX4_isColour_15 (by decide) ?_
      refine V.topN (b := bN (okI 4096 x)) (by first | rw [bN_f (okI_lt q_1)] | rw [bN_f (okI_ge q_8 (by decide))] | rw [bN_t (okI_of q_1 q_8 (by decide))]) ?_
      exact hend _ _ _ _ dX4_isColour_16 (nrB _) ⟨rfl, rfl⟩
    · refine V.iconst (v := nI (1)) E dX4_isColour_11 (by decide) ?_
      refine V.goto (tgt := 16) E dX4_isColour_12 (by decide) ?_
      refine V.topN (b := bN (okI 4096 x)) (by first | rw [bN_f (okI_lt q_1)] | rw [bN_f (okI_ge q_8 (by decide))] | rw [bN_t (okI_of q_1 q_8 (by decide))]) ?_
      exact hend _ _ _ _ dX4_isColour_16 (nrB _) ⟨rfl, rfl⟩
abbrev rm_c_X4_isSlot : Room := { frames := 0, cells := 0, slots := 0, locals := 0 }
theorem hd_X4_isSlot : yX4_isSlot.cls ≠ "java/lang/invoke/MethodHandle" ∧ yX4_isSlot.cls ≠ "java/lang/invoke/VarHandle" ∧ (parseMethodDescriptor yX4_isSlot.desc).map (fun d => d.parameters.length) = some 1 := by decide +kernel
set_option maxRecDepth 100000 in
set_option maxHeartbeats 8000000 in
theorem c_X4_isSlot (G : VC) (x : Int32) : Ctr yX4_isSlot wsX4_isSlot rm_c_X4_isSlot G [.int (x)] (bl []) (fun v9_ u9_ => u9_ = (bl []) ∧ v9_ = some (.int (nI (bN (okI 2 x))))) := by
  refine Ctr.int (cc := cX4_isSlot) (maxL := 1) (ret := (some .boolean)) (lv0 := [some (.int (x))]) (by decide) rfl rfl rfl (Nat.le_of_ble_eq_true rfl) rfl (fun A X E hend => ?_)
  refine V.iload_n E dX4_isSlot_0 rfl rfl ?_
  refine V.if_lt (tgt := 13) E dX4_isSlot_1 (by decide) (fun q_1 => ?_) (fun q_1 => ?_)
  · refine V.iconst (v := nI (0)) E dX4_isSlot_13 (by decide) ?_
    refine V.topN (b := bN (okI 2 x)) (by first | rw [bN_f (okI_lt q_1)] | rw [bN_f (okI_ge q_6 (by decide))] | rw [bN_t (okI_of q_1 q_6 (by decide))]) ?_
    exact hend _ _ _ _ dX4_isSlot_14 (nrB _) ⟨rfl, rfl⟩
  · refine V.iload_n E dX4_isSlot_4 rfl rfl ?_
    refine V.iconst (v := nI (2)) E dX4_isSlot_5 (by decide) ?_
    refine V.icmp_ge (tgt := 13) E dX4_isSlot_6 (by decide) (fun q_6 => ?_) (fun q_6 => ?_)
    · refine V.iconst (v := nI (0)) E dX4_isSlot_13 (by decide) ?_
      refine V.topN (b := bN (okI 2 x)) (by first | rw [bN_f (okI_lt q_1)] | rw [bN_f (okI_ge q_6 (by decide))] | rw [bN_t (okI_of q_1 q_6 (by decide))]) ?_
      exact hend _ _ _ _ dX4_isSlot_14 (nrB _) ⟨rfl, rfl⟩
    · refine V.iconst (v := nI (1)) E dX4_isSlot_9 (by decide) ?_
      refine V.goto (tgt := 14) E dX4_isSlot_10 (by decide) ?_
      refine V.topN (b := bN (okI 2 x)) (by first | rw [bN_f (okI_lt q_1)] | rw [bN_f (okI_ge q_6 (by decide))] | rw [bN_t (okI_of q_1 q_6 (by decide))]) ?_
      exact hend _ _ _ _ dX4_isSlot_14 (nrB _) ⟨rfl, rfl⟩
abbrev rm_c_X4_isSetting : Room := { frames := 0, cells := 0, slots := 0, locals := 0 }
theorem hd_X4_isSetting : yX4_isSetting.cls ≠ "java/lang/invoke/MethodHandle" ∧ yX4_isSetting.cls ≠ "java/lang/invoke/VarHandle" ∧ (parseMethodDescriptor yX4_isSetting.desc).map (fun d => d.parameters.length) = some 1 := by decide +kernel
set_option maxRecDepth 100000 in
set_option maxHeartbeats 8000000 in
theorem c_X4_isSetting (G : VC) (x : Int32) : Ctr yX4_isSetting wsX4_isSetting rm_c_X4_isSetting G [.int (x)] (bl []) (fun v9_ u9_ => u9_ = (bl []) ∧ v9_ = some (.int (nI (bN (okI 6 x))))) := by
  refine Ctr.int (cc := cX4_isSetting) (maxL := 1) (ret := (some .boolean)) (lv0 := [some (.int (x))]) (by decide) rfl rfl rfl (Nat.le_of_ble_eq_true rfl) rfl (fun A X E hend => ?_)
  refine V.iload_n E dX4_isSetting_0 rfl rfl ?_
  refine V.if_lt (tgt := 14) E dX4_isSetting_1 (by decide) (fun q_1 => ?_) (fun q_1 => ?_)
  · refine V.iconst (v := nI (0)) E dX4_isSetting_14 (by decide) ?_
    refine V.topN (b := bN (okI 6 x)) (by first | rw [bN_f (okI_lt q_1)] | rw [bN_f (okI_ge q_7 (by decide))] | rw [bN_t (okI_of q_1 q_7 (by decide))]) ?_
    exact hend _ _ _ _ dX4_isSetting_15 (nrB _) ⟨rfl, rfl⟩
  · refine V.iload_n E dX4_isSetting_4 rfl rfl ?_
    refine V.bipush (v := nI (6)) E dX4_isSetting_5 (by decide) ?_
    refine V.icmp_ge (tgt := 14) E dX4_isSetting_7 (by decide) (fun q_7 => ?_) (fun q_7 => ?_)
    · refine V.iconst (v := nI (0)) E dX4_isSetting_14 (by decide) ?_
      refine V.topN (b := bN (okI 6 x)) (by first | rw [bN_f (okI_lt q_1)] | rw [bN_f (okI_ge q_7 (by decide))] | rw [bN_t (okI_of q_1 q_7 (by decide))]) ?_
      exact hend _ _ _ _ dX4_isSetting_15 (nrB _) ⟨rfl, rfl⟩
    · refine V.iconst (v := nI (1)) E dX4_isSetting_10 (by decide) ?_
      refine V.goto (tgt := 15) E dX4_isSetting_11 (by decide) ?_
      refine V.topN (b := bN (okI 6 x)) (by first | rw [bN_f (okI_lt q_1)] | rw [bN_f (okI_ge q_7 (by decide))] | rw [bN_t (okI_of q_1 q_7 (by decide))]) ?_
      exact hend _ _ _ _ dX4_isSetting_15 (nrB _) ⟨rfl, rfl⟩
abbrev rm_c_X4_partShift : Room := { frames := 0, cells := 0, slots := 0, locals := 0 }
theorem hd_X4_partShift : yX4_partShift.cls ≠ "java/lang/invoke/MethodHandle" ∧ yX4_partShift.cls ≠ "java/lang/invoke/VarHandle" ∧ (parseMethodDescriptor yX4_partShift.desc).map (fun d => d.parameters.length) = some 1 := by decide +kernel
set_option maxRecDepth 100000 in
set_option maxHeartbeats 8000000 in
theorem c_X4_partShift (G : VC) (k : Nat) (hk : k < 3) : Ctr yX4_partShift wsX4_partShift rm_c_X4_partShift G [.int (nI (k))] (bl []) (fun v9_ u9_ => u9_ = (bl []) ∧ v9_ = some (.int (nI (4 * (2 - k))))) := by
  refine Ctr.int (cc := cX4_partShift) (maxL := 1) (ret := (some .int)) (lv0 := [some (.int (nI (k)))]) (by decide) rfl rfl rfl (Nat.le_of_ble_eq_true rfl) rfl (fun A X E hend => ?_)
  refine V.iconst (v := nI (4)) E dX4_partShift_0 (by decide) ?_
  refine V.iconst (v := nI (2)) E dX4_partShift_1 (by decide) ?_
  refine V.iload_n E dX4_partShift_2 rfl rfl ?_
  refine V.isubN E (by omega) dX4_partShift_3 ?_
  refine V.imulN E  dX4_partShift_4 ?_
  exact hend _ _ _ _ dX4_partShift_5 (nrI _) ⟨rfl, rfl⟩
abbrev rm_c_X4_part : Room := { frames := 1, cells := 0, slots := 0, locals := 20 }
theorem hd_X4_part : yX4_part.cls ≠ "java/lang/invoke/MethodHandle" ∧ yX4_part.cls ≠ "java/lang/invoke/VarHandle" ∧ (parseMethodDescriptor yX4_part.desc).map (fun d => d.parameters.length) = some 2 := by decide +kernel
set_option maxRecDepth 100000 in
set_option maxHeartbeats 8000000 in
theorem c_X4_part (G : VC) (c : Nat) (k : Nat) (hc : c < 4096) (hk : k < 3) : Ctr yX4_part wsX4_part rm_c_X4_part G [.int (nI (c)), .int (nI (k))] (bl []) (fun v9_ u9_ => u9_ = (bl []) ∧ v9_ = some (.int (nI (P c k)))) := by
  refine Ctr.int (cc := cX4_part) (maxL := 2) (ret := (some .int)) (lv0 := [some (.int (nI (c))), some (.int (nI (k)))]) (by decide) rfl rfl rfl (Nat.le_of_ble_eq_true rfl) rfl (fun A X E hend => ?_)
  refine V.iload_n E dX4_part_0 rfl rfl ?_
  refine V.iload_n E dX4_part_1 rfl rfl ?_
  refine V.callS E (c_X4_partShift G k (by omega)) (bl []) [.int (nI (c))] gX4_part_X4_partShift rfl hd_X4_partShift ⟨⟨Nat.le_of_ble_eq_true rfl, Nat.le_of_ble_eq_true rfl⟩, Nat.le_of_ble_eq_true rfl, Nat.le_of_ble_eq_true rfl⟩ rfl (Nat.le_of_ble_eq_true rfl) rfl dX4_part_2 (List.Perm.refl _) (kc' := 0) (ks' := 0) rfl rfl (rwI (ws' := (bl [])) (List.Perm.refl _) ?_)
  refine V.ishrN E (by omega) (by omega) dX4_part_5 ?_
  refine V.bipush (v := nI (15)) E dX4_part_6 (by decide) ?_
  refine V.iand15 E (Nat.lt_of_le_of_lt (Nat.div_le_self _ _) (by omega)) dX4_part_8 ?_
  refine V.topN (b := P c k) (rfl) ?_
  exact hend _ _ _ _ dX4_part_9 (nrI _) ⟨rfl, rfl⟩
abbrev rm_c_X4_mainPart : Room := { frames := 2, cells := 0, slots := 0, locals := 41 }
theorem hd_X4_mainPart : yX4_mainPart.cls ≠ "java/lang/invoke/MethodHandle" ∧ yX4_mainPart.cls ≠ "java/lang/invoke/VarHandle" ∧ (parseMethodDescriptor yX4_mainPart.desc).map (fun d => d.parameters.length) = some 1 := by decide +kernel
set_option maxRecDepth 100000 in
set_option maxHeartbeats 8000000 in
theorem c_X4_mainPart (G : VC) (c : Nat) (hc : c < 4096) : Ctr yX4_mainPart wsX4_mainPart rm_c_X4_mainPart G [.int (nI (c))] (bl []) (fun v9_ u9_ => u9_ = (bl []) ∧ v9_ = some (.int (nI (mainP c)))) := by
  refine Ctr.int (cc := cX4_mainPart) (maxL := 3) (ret := (some .int)) (lv0 := [some (.int (nI (c))), none, none]) (by decide) rfl rfl rfl (Nat.le_of_ble_eq_true rfl) rfl (fun A X E hend => ?_)
  refine V.iconst (v := nI (0)) E dX4_mainPart_0 (by decide) ?_
  refine V.istore_n (lv' := [some (.int (nI (c))), some (.int (nI (0))), none]) E dX4_mainPart_1 rfl (Nat.le_of_ble_eq_true rfl) rfl rfl ?_
  refine V.iconst (v := nI (1)) E dX4_mainPart_2 (by decide) ?_
  refine V.istore_n (lv' := [some (.int (nI (c))), some (.int (nI (0))), some (.int (nI (1)))]) E dX4_mainPart_3 rfl (Nat.le_of_ble_eq_true rfl) rfl rfl ?_
  refine V.iload_n E dX4_mainPart_4 rfl rfl ?_
  refine V.iconst (v := nI (3)) E dX4_mainPart_5 (by decide) ?_
  refine V.icmp_geN (tgt := 30) E (by omega) (by omega) dX4_mainPart_6 (by decide) (fun q_6 => absurd q_6 (by decide)) (fun q_6 => ?_)
  refine V.iload_n E dX4_mainPart_9 rfl rfl ?_
  refine V.iload_n E dX4_mainPart_10 rfl rfl ?_
  refine V.callS E (c_X4_part G c 1 (by omega) (by omega)) (bl []) [] gX4_mainPart_X4_part rfl hd_X4_part ⟨⟨Nat.le_of_ble_eq_true rfl, Nat.le_of_ble_eq_true rfl⟩, Nat.le_of_ble_eq_true rfl, Nat.le_of_ble_eq_true rfl⟩ rfl (Nat.le_of_ble_eq_true rfl) rfl dX4_mainPart_11 (List.Perm.refl _) (kc' := 0) (ks' := 0) rfl rfl (rwI (ws' := (bl [])) (List.Perm.refl _) ?_)
  refine V.iload_n E dX4_mainPart_14 rfl rfl ?_
  refine V.iload_n E dX4_mainPart_15 rfl rfl ?_
  refine V.callS E (c_X4_part G c 0 (by omega) (by omega)) (bl []) [.int (nI (P c 1))] gX4_mainPart_X4_part rfl hd_X4_part ⟨⟨Nat.le_of_ble_eq_true rfl, Nat.le_of_ble_eq_true rfl⟩, Nat.le_of_ble_eq_true rfl, Nat.le_of_ble_eq_true rfl⟩ rfl (Nat.le_of_ble_eq_true rfl) rfl dX4_mainPart_16 (List.Perm.refl _) (kc' := 0) (ks' := 0) rfl rfl (rwI (ws' := (bl [])) (List.Perm.refl _) ?_)
  refine V.icmp_leN (tgt := 24) E (Nat.lt_trans (P_lt _ _) (by decide)) (Nat.lt_trans (P_lt _ _) (by decide)) dX4_mainPart_19 (by decide) (fun q_19 => ?_) (fun q_19 => ?_)
  · refine V.iincN (lv' := [some (.int (nI (c))), some (.int (nI (0))), some (.int (nI (2)))]) E dX4_mainPart_24 rfl (Nat.le_of_ble_eq_true rfl) rfl rfl ?_
    refine V.goto (tgt := 4) E dX4_mainPart_27 (by decide) ?_
    refine V.iload_n E dX4_mainPart_4 rfl rfl ?_
    refine V.iconst (v := nI (3)) E dX4_mainPart_5 (by decide) ?_
    refine V.icmp_geN (tgt := 30) E (by omega) (by omega) dX4_mainPart_6 (by decide) (fun q_6 => absurd q_6 (by decide)) (fun q_6 => ?_)
    refine V.iload_n E dX4_mainPart_9 rfl rfl ?_
    refine V.iload_n E dX4_mainPart_10 rfl rfl ?_
    refine V.callS E (c_X4_part G c 2 (by omega) (by omega)) (bl []) [] gX4_mainPart_X4_part rfl hd_X4_part ⟨⟨Nat.le_of_ble_eq_true rfl, Nat.le_of_ble_eq_true rfl⟩, Nat.le_of_ble_eq_true rfl, Nat.le_of_ble_eq_true rfl⟩ rfl (Nat.le_of_ble_eq_true rfl) rfl dX4_mainPart_11 (List.Perm.refl _) (kc' := 0) (ks' := 0) rfl rfl (rwI (ws' := (bl [])) (List.Perm.refl _) ?_)
    refine V.iload_n E dX4_mainPart_14 rfl rfl ?_
    refine V.iload_n E dX4_mainPart_15 rfl rfl ?_
    refine V.callS E (c_X4_part G c 0 (by omega) (by omega)) (bl []) [.int (nI (P c 2))] gX4_mainPart_X4_part rfl hd_X4_part ⟨⟨Nat.le_of_ble_eq_true rfl, Nat.le_of_ble_eq_true rfl⟩, Nat.le_of_ble_eq_true rfl, Nat.le_of_ble_eq_true rfl⟩ rfl (Nat.le_of_ble_eq_true rfl) rfl dX4_mainPart_16 (List.Perm.refl _) (kc' := 0) (ks' := 0) rfl rfl (rwI (ws' := (bl [])) (List.Perm.refl _) ?_)
    refine V.icmp_leN (tgt := 24) E (Nat.lt_trans (P_lt _ _) (by decide)) (Nat.lt_trans (P_lt _ _) (by decide)) dX4_mainPart_19 (by decide) (fun q_19 => ?_) (fun q_19 => ?_)
    · refine V.iincN (lv' := [some (.int (nI (c))), some (.int (nI (0))), some (.int (nI (3)))]) E dX4_mainPart_24 rfl (Nat.le_of_ble_eq_true rfl) rfl rfl ?_
      refine V.goto (tgt := 4) E dX4_mainPart_27 (by decide) ?_
      refine V.iload_n E dX4_mainPart_4 rfl rfl ?_
      refine V.iconst (v := nI (3)) E dX4_mainPart_5 (by decide) ?_
      refine V.icmp_geN (tgt := 30) E (by omega) (by omega) dX4_mainPart_6 (by decide) (fun q_6 => ?_) (fun q_6 => absurd q_6 (by decide))
      refine V.iload_n E dX4_mainPart_30 rfl rfl ?_
      refine V.topN (b := mainP c) (by unfold mainP; (repeat' split) <;> omega) ?_
      exact hend _ _ _ _ dX4_mainPart_31 (nrI _) ⟨rfl, rfl⟩
    · refine V.iload_n E dX4_mainPart_22 rfl rfl ?_
      refine V.istore_n (lv' := [some (.int (nI (c))), some (.int (nI (2))), some (.int (nI (2)))]) E dX4_mainPart_23 rfl (Nat.le_of_ble_eq_true rfl) rfl rfl ?_
      refine V.iincN (lv' := [some (.int (nI (c))), some (.int (nI (2))), some (.int (nI (3)))]) E dX4_mainPart_24 rfl (Nat.le_of_ble_eq_true rfl) rfl rfl ?_
      refine V.goto (tgt := 4) E dX4_mainPart_27 (by decide) ?_
      refine V.iload_n E dX4_mainPart_4 rfl rfl ?_
      refine V.iconst (v := nI (3)) E dX4_mainPart_5 (by decide) ?_
      refine V.icmp_geN (tgt := 30) E (by omega) (by omega) dX4_mainPart_6 (by decide) (fun q_6 => ?_) (fun q_6 => absurd q_6 (by decide))
      refine V.iload_n E dX4_mainPart_30 rfl rfl ?_
      refine V.topN (b := mainP c) (by unfold mainP; (repeat' split) <;> omega) ?_
      exact hend _ _ _ _ dX4_mainPart_31 (nrI _) ⟨rfl, rfl⟩
  · refine V.iload_n E dX4_mainPart_22 rfl rfl ?_
    refine V.istore_n (lv' := [some (.int (nI (c))), some (.int (nI (1))), some (.int (nI (1)))]) E dX4_mainPart_23 rfl (Nat.le_of_ble_eq_true rfl) rfl rfl ?_
    refine V.iincN (lv' := [some (.int (nI (c))), some (.int (nI (1))), some (.int (nI (2)))]) E dX4_mainPart_24 rfl (Nat.le_of_ble_eq_true rfl) rfl rfl ?_
    refine V.goto (tgt := 4) E dX4_mainPart_27 (by decide) ?_
    refine V.iload_n E dX4_mainPart_4 rfl rfl ?_
    refine V.iconst (v := nI (3)) E dX4_mainPart_5 (by decide) ?_
    refine V.icmp_geN (tgt := 30) E (by omega) (by omega) dX4_mainPart_6 (by decide) (fun q_6 => absurd q_6 (by decide)) (fun q_6 => ?_)
    refine V.iload_n E dX4_mainPart_9 rfl rfl ?_
    refine V.iload_n E dX4_mainPart_10 rfl rfl ?_
    refine V.callS E (c_X4_part G c 2 (by omega) (by omega)) (bl []) [] gX4_mainPart_X4_part rfl hd_X4_part ⟨⟨Nat.le_of_ble_eq_true rfl, Nat.le_of_ble_eq_true rfl⟩, Nat.le_of_ble_eq_true rfl, Nat.le_of_ble_eq_true rfl⟩ rfl (Nat.le_of_ble_eq_true rfl) rfl dX4_mainPart_11 (List.Perm.refl _) (kc' := 0) (ks' := 0) rfl rfl (rwI (ws' := (bl [])) (List.Perm.refl _) ?_)
    refine V.iload_n E dX4_mainPart_14 rfl rfl ?_
    refine V.iload_n E dX4_mainPart_15 rfl rfl ?_
    refine V.callS E (c_X4_part G c 1 (by omega) (by omega)) (bl []) [.int (nI (P c 2))] gX4_mainPart_X4_part rfl hd_X4_part ⟨⟨Nat.le_of_ble_eq_true rfl, Nat.le_of_ble_eq_true rfl⟩, Nat.le_of_ble_eq_true rfl, Nat.le_of_ble_eq_true rfl⟩ rfl (Nat.le_of_ble_eq_true rfl) rfl dX4_mainPart_16 (List.Perm.refl _) (kc' := 0) (ks' := 0) rfl rfl (rwI (ws' := (bl [])) (List.Perm.refl _) ?_)
    refine V.icmp_leN (tgt := 24) E (Nat.lt_trans (P_lt _ _) (by decide)) (Nat.lt_trans (P_lt _ _) (by decide)) dX4_mainPart_19 (by decide) (fun q_19 => ?_) (fun q_19 => ?_)
    · refine V.iincN (lv' := [some (.int (nI (c))), some (.int (nI (1))), some (.int (nI (3)))]) E dX4_mainPart_24 rfl (Nat.le_of_ble_eq_true rfl) rfl rfl ?_
      refine V.goto (tgt := 4) E dX4_mainPart_27 (by decide) ?_
      refine V.iload_n E dX4_mainPart_4 rfl rfl ?_
      refine V.iconst (v := nI (3)) E dX4_mainPart_5 (by decide) ?_
      refine V.icmp_geN (tgt := 30) E (by omega) (by omega) dX4_mainPart_6 (by decide) (fun q_6 => ?_) (fun q_6 => absurd q_6 (by decide))
      refine V.iload_n E dX4_mainPart_30 rfl rfl ?_
      refine V.topN (b := mainP c) (by unfold mainP; (repeat' split) <;> omega) ?_
      exact hend _ _ _ _ dX4_mainPart_31 (nrI _) ⟨rfl, rfl⟩
    · refine V.iload_n E dX4_mainPart_22 rfl rfl ?_
      refine V.istore_n (lv' := [some (.int (nI (c))), some (.int (nI (2))), some (.int (nI (2)))]) E dX4_mainPart_23 rfl (Nat.le_of_ble_eq_true rfl) rfl rfl ?_
      refine V.iincN (lv' := [some (.int (nI (c))), some (.int (nI (2))), some (.int (nI (3)))]) E dX4_mainPart_24 rfl (Nat.le_of_ble_eq_true rfl) rfl rfl ?_
      refine V.goto (tgt := 4) E dX4_mainPart_27 (by decide) ?_
      refine V.iload_n E dX4_mainPart_4 rfl rfl ?_
      refine V.iconst (v := nI (3)) E dX4_mainPart_5 (by decide) ?_
      refine V.icmp_geN (tgt := 30) E (by omega) (by omega) dX4_mainPart_6 (by decide) (fun q_6 => ?_) (fun q_6 => absurd q_6 (by decide))
      refine V.iload_n E dX4_mainPart_30 rfl rfl ?_
      refine V.topN (b := mainP c) (by unfold mainP; (repeat' split) <;> omega) ?_
      exact hend _ _ _ _ dX4_mainPart_31 (nrI _) ⟨rfl, rfl⟩
abbrev rm_c_X4_spillIn : Room := { frames := 2, cells := 0, slots := 0, locals := 41 }
theorem hd_X4_spillIn : yX4_spillIn.cls ≠ "java/lang/invoke/MethodHandle" ∧ yX4_spillIn.cls ≠ "java/lang/invoke/VarHandle" ∧ (parseMethodDescriptor yX4_spillIn.desc).map (fun d => d.parameters.length) = some 2 := by decide +kernel
set_option maxRecDepth 100000 in
set_option maxHeartbeats 8000000 in
theorem c_X4_spillIn (G : VC) (c : Nat) (k : Nat) (hc : c < 4096) (hk : k < 3) : Ctr yX4_spillIn wsX4_spillIn rm_c_X4_spillIn G [.int (nI (c)), .int (nI (k))] (bl []) (fun v9_ u9_ => u9_ = (bl []) ∧ v9_ = some (.int (nI (spl c k)))) := by
  refine Ctr.int (cc := cX4_spillIn) (maxL := 4) (ret := (some .int)) (lv0 := [some (.int (nI (c))), some (.int (nI (k))), none, none]) (by decide) rfl rfl rfl (Nat.le_of_ble_eq_true rfl) rfl (fun A X E hend => ?_)
  refine V.iload_n E dX4_spillIn_0 rfl rfl ?_
  refine V.iload_n E dX4_spillIn_1 rfl rfl ?_
  refine V.iconst (v := nI (1)) E dX4_spillIn_2 (by decide) ?_
  refine V.iaddN E  dX4_spillIn_3 ?_
  refine V.iconst (v := nI (3)) E dX4_spillIn_4 (by decide) ?_
  refine V.iremN E (by omega) (by omega) (by omega) dX4_spillIn_5 ?_
  refine V.callS E (c_X4_part G c ((k + 1) % 3) (hc) (Nat.mod_lt _ (by decide))) (bl []) [] gX4_spillIn_X4_part rfl hd_X4_part ⟨⟨Nat.le_of_ble_eq_true rfl, Nat.le_of_ble_eq_true rfl⟩, Nat.le_of_ble_eq_true rfl, Nat.le_of_ble_eq_true rfl⟩ rfl (Nat.le_of_ble_eq_true rfl) rfl dX4_spillIn_6 (List.Perm.refl _) (kc' := 0) (ks' := 0) rfl rfl (rwI (ws' := (bl [])) (List.Perm.refl _) ?_)
  refine V.istore_n (lv' := [some (.int (nI (c))), some (.int (nI (k))), some (.int (nI (P c ((k + 1) % 3)))), none]) E dX4_spillIn_9 rfl (Nat.le_of_ble_eq_true rfl) rfl rfl ?_
  refine V.iload_n E dX4_spillIn_10 rfl rfl ?_
  refine V.iload_n E dX4_spillIn_11 rfl rfl ?_
  refine V.iconst (v := nI (2)) E dX4_spillIn_12 (by decide) ?_
  refine V.iaddN E  dX4_spillIn_13 ?_
  refine V.iconst (v := nI (3)) E dX4_spillIn_14 (by decide) ?_
  refine V.iremN E (by omega) (by omega) (by omega) dX4_spillIn_15 ?_
  refine V.callS E (c_X4_part G c ((k + 2) % 3) (hc) (Nat.mod_lt _ (by decide))) (bl []) [] gX4_spillIn_X4_part rfl hd_X4_part ⟨⟨Nat.le_of_ble_eq_true rfl, Nat.le_of_ble_eq_true rfl⟩, Nat.le_of_ble_eq_true rfl, Nat.le_of_ble_eq_true rfl⟩ rfl (Nat.le_of_ble_eq_true rfl) rfl dX4_spillIn_16 (List.Perm.refl _) (kc' := 0) (ks' := 0) rfl rfl (rwI (ws' := (bl [])) (List.Perm.refl _) ?_)
  refine V.istore_n (lv' := [some (.int (nI (c))), some (.int (nI (k))), some (.int (nI (P c ((k + 1) % 3)))), some (.int (nI (P c ((k + 2) % 3))))]) E dX4_spillIn_19 rfl (Nat.le_of_ble_eq_true rfl) rfl rfl ?_
  refine V.iconst (v := nI (0)) E dX4_spillIn_20 (by decide) ?_
  refine V.iload_n E dX4_spillIn_21 rfl rfl ?_
  refine V.iload_n E dX4_spillIn_22 rfl rfl ?_
  refine V.callS E (c_X4_part G c k (by omega) (by omega)) (bl []) [.int (nI (0))] gX4_spillIn_X4_part rfl hd_X4_part ⟨⟨Nat.le_of_ble_eq_true rfl, Nat.le_of_ble_eq_true rfl⟩, Nat.le_of_ble_eq_true rfl, Nat.le_of_ble_eq_true rfl⟩ rfl (Nat.le_of_ble_eq_true rfl) rfl dX4_spillIn_23 (List.Perm.refl _) (kc' := 0) (ks' := 0) rfl rfl (rwI (ws' := (bl [])) (List.Perm.refl _) ?_)
  refine V.iload_n E dX4_spillIn_26 rfl rfl ?_
  refine V.iload_n E dX4_spillIn_27 rfl rfl ?_
  refine V.mmax E ⟨(by decide +kernel), (by decide +kernel), (by decide +kernel), (by decide +kernel)⟩ ⟨Nat.le_of_ble_eq_true rfl, Nat.le_of_ble_eq_true rfl, Nat.le_of_ble_eq_true rfl, Nat.le_of_ble_eq_true rfl⟩ rfl dX4_spillIn_28 ?_
  refine V.top (y := nI (max (P c ((k + 1) % 3)) (P c ((k + 2) % 3)))) (mm_max (Nat.lt_trans (P_lt _ _) (by decide)) (Nat.lt_trans (P_lt _ _) (by decide))) ?_
  refine V.isub E dX4_spillIn_31  ?_
  refine V.mmax E ⟨(by decide +kernel), (by decide +kernel), (by decide +kernel), (by decide +kernel)⟩ ⟨Nat.le_of_ble_eq_true rfl, Nat.le_of_ble_eq_true rfl, Nat.le_of_ble_eq_true rfl, Nat.le_of_ble_eq_true rfl⟩ rfl dX4_spillIn_32 ?_
  refine V.top (y := nI (spl c k)) (mm_pos (Nat.lt_trans (P_lt _ _) (by decide)) (by have h1 := P_lt c ((k + 1) % 3); have h2 := P_lt c ((k + 2) % 3); omega)) ?_
  exact hend _ _ _ _ dX4_spillIn_35 (nrI _) ⟨rfl, rfl⟩
abbrev rm_c_X4_distance : Room := { frames := 2, cells := 0, slots := 0, locals := 41 }
theorem hd_X4_distance : yX4_distance.cls ≠ "java/lang/invoke/MethodHandle" ∧ yX4_distance.cls ≠ "java/lang/invoke/VarHandle" ∧ (parseMethodDescriptor yX4_distance.desc).map (fun d => d.parameters.length) = some 2 := by decide +kernel
set_option maxRecDepth 100000 in
set_option maxHeartbeats 8000000 in
theorem c_X4_distance (G : VC) (a : Nat) (b : Nat) (ha : a < 4096) (hb : b < 4096) : Ctr yX4_distance wsX4_distance rm_c_X4_distance G [.int (nI (a)), .int (nI (b))] (bl []) (fun v9_ u9_ => u9_ = (bl []) ∧ v9_ = some (.int (nI (dist a b)))) := by
  refine Ctr.int (cc := cX4_distance) (maxL := 4) (ret := (some .int)) (lv0 := [some (.int (nI (a))), some (.int (nI (b))), none, none]) (by decide) rfl rfl rfl (Nat.le_of_ble_eq_true rfl) rfl (fun A X E hend => ?_)
  refine V.iconst (v := nI (0)) E dX4_distance_0 (by decide) ?_
  refine V.istore_n (lv' := [some (.int (nI (a))), some (.int (nI (b))), some (.int (nI (0))), none]) E dX4_distance_1 rfl (Nat.le_of_ble_eq_true rfl) rfl rfl ?_
  refine V.iconst (v := nI (0)) E dX4_distance_2 (by decide) ?_
  refine V.istore_n (lv' := [some (.int (nI (a))), some (.int (nI (b))), some (.int (nI (0))), some (.int (nI (0)))]) E dX4_distance_3 rfl (Nat.le_of_ble_eq_true rfl) rfl rfl ?_
  refine V.iload_n E dX4_distance_4 rfl rfl ?_
  refine V.iconst (v := nI (3)) E dX4_distance_5 (by decide) ?_
  refine V.icmp_geN (tgt := 32) E (by omega) (by omega) dX4_distance_6 (by decide) (fun q_6 => absurd q_6 (by decide)) (fun q_6 => ?_)
  refine V.iload_n E dX4_distance_9 rfl rfl ?_
  refine V.iload_n E dX4_distance_10 rfl rfl ?_
  refine V.iload_n E dX4_distance_11 rfl rfl ?_
  refine V.callS E (c_X4_part G a 0 (by omega) (by omega)) (bl []) [.int (nI (0))] gX4_distance_X4_part rfl hd_X4_part ⟨⟨Nat.le_of_ble_eq_true rfl, Nat.le_of_ble_eq_true rfl⟩, Nat.le_of_ble_eq_true rfl, Nat.le_of_ble_eq_true rfl⟩ rfl (Nat.le_of_ble_eq_true rfl) rfl dX4_distance_12 (List.Perm.refl _) (kc' := 0) (ks' := 0) rfl rfl (rwI (ws' := (bl [])) (List.Perm.refl _) ?_)
  refine V.iload_n E dX4_distance_15 rfl rfl ?_
  refine V.iload_n E dX4_distance_16 rfl rfl ?_
  refine V.callS E (c_X4_part G b 0 (by omega) (by omega)) (bl []) [.int (nI (P a 0)), .int (nI (0))] gX4_distance_X4_part rfl hd_X4_part ⟨⟨Nat.le_of_ble_eq_true rfl, Nat.le_of_ble_eq_true rfl⟩, Nat.le_of_ble_eq_true rfl, Nat.le_of_ble_eq_true rfl⟩ rfl (Nat.le_of_ble_eq_true rfl) rfl dX4_distance_17 (List.Perm.refl _) (kc' := 0) (ks' := 0) rfl rfl (rwI (ws' := (bl [])) (List.Perm.refl _) ?_)
  refine V.isub E dX4_distance_20  ?_
  refine V.mabs E ⟨(by decide +kernel), (by decide +kernel), (by decide +kernel), (by decide +kernel)⟩ ⟨Nat.le_of_ble_eq_true rfl, Nat.le_of_ble_eq_true rfl, Nat.le_of_ble_eq_true rfl, Nat.le_of_ble_eq_true rfl⟩ rfl dX4_distance_21 ?_
  refine V.top (y := nI (((P a 0) - (P b 0)) + ((P b 0) - (P a 0)))) (mm_abs (Nat.lt_trans (P_lt _ _) (by decide)) (Nat.lt_trans (P_lt _ _) (by decide))) ?_
  refine V.iaddN E  dX4_distance_24 ?_
  refine V.istore_n (lv' := [some (.int (nI (a))), some (.int (nI (b))), some (.int (nI (0 + (((P a 0) - (P b 0)) + ((P b 0) - (P a 0)))))), some (.int (nI (0)))]) E dX4_distance_25 rfl (Nat.le_of_ble_eq_true rfl) rfl rfl ?_
  refine V.iincN (lv' := [some (.int (nI (a))), some (.int (nI (b))), some (.int (nI (0 + (((P a 0) - (P b 0)) + ((P b 0) - (P a 0)))))), some (.int (nI (1)))]) E dX4_distance_26 rfl (Nat.le_of_ble_eq_true rfl) rfl rfl ?_
  refine V.goto (tgt := 4) E dX4_distance_29 (by decide) ?_
  refine V.iload_n E dX4_distance_4 rfl rfl ?_
  refine V.iconst (v := nI (3)) E dX4_distance_5 (by decide) ?_
  refine V.icmp_geN (tgt := 32) E (by omega) (by omega) dX4_distance_6 (by decide) (fun q_6 => absurd q_6 (by decide)) (fun q_6 => ?_)
  refine V.iload_n E dX4_distance_9 rfl rfl ?_
  refine V.iload_n E dX4_distance_10 rfl rfl ?_
  refine V.iload_n E dX4_distance_11 rfl rfl ?_
  refine V.callS E (c_X4_part G a 1 (by omega) (by omega)) (bl []) [.int (nI (0 + (((P a 0) - (P b 0)) + ((P b 0) - (P a 0)))))] gX4_distance_X4_part rfl hd_X4_part ⟨⟨Nat.le_of_ble_eq_true rfl, Nat.le_of_ble_eq_true rfl⟩, Nat.le_of_ble_eq_true rfl, Nat.le_of_ble_eq_true rfl⟩ rfl (Nat.le_of_ble_eq_true rfl) rfl dX4_distance_12 (List.Perm.refl _) (kc' := 0) (ks' := 0) rfl rfl (rwI (ws' := (bl [])) (List.Perm.refl _) ?_)
  refine V.iload_n E dX4_distance_15 rfl rfl ?_
  refine V.iload_n E dX4_distance_16 rfl rfl ?_
  refine V.callS E (c_X4_part G b 1 (by omega) (by omega)) (bl []) [.int (nI (P a 1)), .int (nI (0 + (((P a 0) - (P b 0)) + ((P b 0) - (P a 0)))))] gX4_distance_X4_part rfl hd_X4_part ⟨⟨Nat.le_of_ble_eq_true rfl, Nat.le_of_ble_eq_true rfl⟩, Nat.le_of_ble_eq_true rfl, Nat.le_of_ble_eq_true rfl⟩ rfl (Nat.le_of_ble_eq_true rfl) rfl dX4_distance_17 (List.Perm.refl _) (kc' := 0) (ks' := 0) rfl rfl (rwI (ws' := (bl [])) (List.Perm.refl _) ?_)
  refine V.isub E dX4_distance_20  ?_
  refine V.mabs E ⟨(by decide +kernel), (by decide +kernel), (by decide +kernel), (by decide +kernel)⟩ ⟨Nat.le_of_ble_eq_true rfl, Nat.le_of_ble_eq_true rfl, Nat.le_of_ble_eq_true rfl, Nat.le_of_ble_eq_true rfl⟩ rfl dX4_distance_21 ?_
  refine V.top (y := nI (((P a 1) - (P b 1)) + ((P b 1) - (P a 1)))) (mm_abs (Nat.lt_trans (P_lt _ _) (by decide)) (Nat.lt_trans (P_lt _ _) (by decide))) ?_
  refine V.iaddN E  dX4_distance_24 ?_
  refine V.istore_n (lv' := [some (.int (nI (a))), some (.int (nI (b))), some (.int (nI ((0 + (((P a 0) - (P b 0)) + ((P b 0) - (P a 0)))) + (((P a 1) - (P b 1)) + ((P b 1) - (P a 1)))))), some (.int (nI (1)))]) E dX4_distance_25 rfl (Nat.le_of_ble_eq_true rfl) rfl rfl ?_
  refine V.iincN (lv' := [some (.int (nI (a))), some (.int (nI (b))), some (.int (nI ((0 + (((P a 0) - (P b 0)) + ((P b 0) - (P a 0)))) + (((P a 1) - (P b 1)) + ((P b 1) - (P a 1)))))), some (.int (nI (2)))]) E dX4_distance_26 rfl (Nat.le_of_ble_eq_true rfl) rfl rfl ?_
  refine V.goto (tgt := 4) E dX4_distance_29 (by decide) ?_
  refine V.iload_n E dX4_distance_4 rfl rfl ?_
  refine V.iconst (v := nI (3)) E dX4_distance_5 (by decide) ?_
  refine V.icmp_geN (tgt := 32) E (by omega) (by omega) dX4_distance_6 (by decide) (fun q_6 => absurd q_6 (by decide)) (fun q_6 => ?_)
  refine V.iload_n E dX4_distance_9 rfl rfl ?_
  refine V.iload_n E dX4_distance_10 rfl rfl ?_
  refine V.iload_n E dX4_distance_11 rfl rfl ?_
  refine V.callS E (c_X4_part G a 2 (by omega) (by omega)) (bl []) [.int (nI ((0 + (((P a 0) - (P b 0)) + ((P b 0) - (P a 0)))) + (((P a 1) - (P b 1)) + ((P b 1) - (P a 1)))))] gX4_distance_X4_part rfl hd_X4_part ⟨⟨Nat.le_of_ble_eq_true rfl, Nat.le_of_ble_eq_true rfl⟩, Nat.le_of_ble_eq_true rfl, Nat.le_of_ble_eq_true rfl⟩ rfl (Nat.le_of_ble_eq_true rfl) rfl dX4_distance_12 (List.Perm.refl _) (kc' := 0) (ks' := 0) rfl rfl (rwI (ws' := (bl [])) (List.Perm.refl _) ?_)
  refine V.iload_n E dX4_distance_15 rfl rfl ?_
  refine V.iload_n E dX4_distance_16 rfl rfl ?_
  refine V.callS E (c_X4_part G b 2 (by omega) (by omega)) (bl []) [.int (nI (P a 2)), .int (nI ((0 + (((P a 0) - (P b 0)) + ((P b 0) - (P a 0)))) + (((P a 1) - (P b 1)) + ((P b 1) - (P a 1)))))] gX4_distance_X4_part rfl hd_X4_part ⟨⟨Nat.le_of_ble_eq_true rfl, Nat.le_of_ble_eq_true rfl⟩, Nat.le_of_ble_eq_true rfl, Nat.le_of_ble_eq_true rfl⟩ rfl (Nat.le_of_ble_eq_true rfl) rfl dX4_distance_17 (List.Perm.refl _) (kc' := 0) (ks' := 0) rfl rfl (rwI (ws' := (bl [])) (List.Perm.refl _) ?_)
  refine V.isub E dX4_distance_20  ?_
  refine V.mabs E ⟨(by decide +kernel), (by decide +kernel), (by decide +kernel), (by decide +kernel)⟩ ⟨Nat.le_of_ble_eq_true rfl, Nat.le_of_ble_eq_true rfl, Nat.le_of_ble_eq_true rfl, Nat.le_of_ble_eq_true rfl⟩ rfl dX4_distance_21 ?_
  refine V.top (y := nI (((P a 2) - (P b 2)) + ((P b 2) - (P a 2)))) (mm_abs (Nat.lt_trans (P_lt _ _) (by decide)) (Nat.lt_trans (P_lt _ _) (by decide))) ?_
  refine V.iaddN E  dX4_distance_24 ?_
  refine V.istore_n (lv' := [some (.int (nI (a))), some (.int (nI (b))), some (.int (nI (((0 + (((P a 0) - (P b 0)) + ((P b 0) - (P a 0)))) + (((P a 1) - (P b 1)) + ((P b 1) - (P a 1)))) + (((P a 2) - (P b 2)) + ((P b 2) - (P a 2)))))), some (.int (nI (2)))]) E dX4_distance_25 rfl (Nat.le_of_ble_eq_true rfl) rfl rfl ?_
  refine V.iincN (lv' := [some (.int (nI (a))), some (.int (nI (b))), some (.int (nI (((0 + (((P a 0) - (P b 0)) + ((P b 0) - (P a 0)))) + (((P a 1) - (P b 1)) + ((P b 1) - (P a 1)))) + (((P a 2) - (P b 2)) + ((P b 2) - (P a 2)))))), some (.int (nI (3)))]) E dX4_distance_26 rfl (Nat.le_of_ble_eq_true rfl) rfl rfl ?_
  refine V.goto (tgt := 4) E dX4_distance_29 (by decide) ?_
  refine V.iload_n E dX4_distance_4 rfl rfl ?_
  refine V.iconst (v := nI (3)) E dX4_distance_5 (by decide) ?_
  refine V.icmp_geN (tgt := 32) E (by omega) (by omega) dX4_distance_6 (by decide) (fun q_6 => ?_) (fun q_6 => absurd q_6 (by decide))
  refine V.iload_n E dX4_distance_32 rfl rfl ?_
  refine V.topN (b := dist a b) (by unfold dist; omega) ?_
  exact hend _ _ _ _ dX4_distance_33 (nrI _) ⟨rfl, rfl⟩
theorem mix_le {a b o : Nat} (ha : a < 16) (hb : b < 16) (ho : o ≤ 16) : a * o + b * (16 - o) ≤ 240 := by
  have h1 : a * o ≤ 15 * o := Nat.mul_le_mul_right _ (by omega)
  have h2 : b * (16 - o) ≤ 15 * (16 - o) := Nat.mul_le_mul_right _ (by omega)
  omega
/-- a part of the composed colour -/
def mixK (f b o k : Nat) : Nat := (P f k * o + P b k * (16 - o)) / 16
theorem mixK_le {f b o : Nat} (k : Nat) (ho : o ≤ 16) : mixK f b o k ≤ 15 := by
  have := mix_le (P_lt f k) (P_lt b k) ho
  unfold mixK
  omega
def cmpC (f b o : Nat) : Nat := mixK f b o 0 * 2 ^ 8 + mixK f b o 1 * 2 ^ 4 + mixK f b o 2
theorem cmpC_lt {f b o : Nat} (ho : o ≤ 16) : cmpC f b o < 4096 := by
  have h0 := mixK_le (f := f) (b := b) 0 ho
  have h1 := mixK_le (f := f) (b := b) 1 ho
  have h2 := mixK_le (f := f) (b := b) 2 ho
  unfold cmpC
  omega
theorem orN (k : Nat) {x y z : Nat} (hx : x = z * 2 ^ k) (h : y < 2 ^ k) : nI x ||| nI y = nI (x + y) := by
  subst hx
  have e : z * 2 ^ k + y = (z * 2 ^ k) ||| y := by rw [Nat.mul_comm]; exact Nat.two_pow_add_eq_or_of_lt h z
  rw [e]
  apply Int32.toBitVec_inj.mp
  show BitVec.ofNat 32 _ ||| BitVec.ofNat 32 _ = BitVec.ofNat 32 _
  rw [BitVec.ofNat_or]
def nbOK (p : Nat) : Nat → Bool
  | 0 => decide (8 ≤ p)
  | 1 => decide (p < 40)
  | 2 => decide (0 < p % 8)
  | _ => decide (p % 8 < 7)
def nbP (p : Nat) : Nat → Nat
  | 0 => p - 8
  | 1 => p + 8
  | 2 => p - 1
  | _ => p + 1
/-- the pixel beside one, as the program tells it -/
def nbI (p k : Nat) : Int32 := if nbOK p k = true then nI (nbP p k) else -1
theorem nbI_t {p k : Nat} (h : nbOK p k = true) : nbI p k = nI (nbP p k) := if_pos h
theorem nbI_f {p k : Nat} (h : nbOK p k = false) : nbI p k = -1 := if_neg (by rw [h]; decide)
theorem nbP_lt {p k : Nat} (hp : p < 48) (h : nbOK p k = true) : nbP p k < 48 := by
  match k, h with
  | 0, h => have := of_decide_eq_true h; show p - 8 < 48; omega
  | 1, h => have := of_decide_eq_true h; show p + 8 < 48; omega
  | 2, h => have := of_decide_eq_true h; show p - 1 < 48; omega
  | k + 3, h => have : p % 8 < 7 := of_decide_eq_true h; show p + 1 < 48; omega
def edge (p : Nat) : Bool := decide (p % 8 = 0 ∨ p % 8 = 7 ∨ p / 8 = 0 ∨ p / 8 = 5)
abbrev rm_c_X4_composedColour : Room := { frames := 2, cells := 0, slots := 0, locals := 41 }
theorem hd_X4_composedColour : yX4_composedColour.cls ≠ "java/lang/invoke/MethodHandle" ∧ yX4_composedColour.cls ≠ "java/lang/invoke/VarHandle" ∧ (parseMethodDescriptor yX4_composedColour.desc).map (fun d => d.parameters.length) = some 3 := by decide +kernel
set_option maxRecDepth 100000 in
set_option maxHeartbeats 8000000 in
theorem c_X4_composedColour (G : VC) (f : Nat) (b : Nat) (o : Nat) (hf : f < 4096) (hb : b < 4096) (ho : o ≤ 16) : Ctr yX4_composedColour wsX4_composedColour rm_c_X4_composedColour G [.int (nI (f)), .int (nI (b)), .int (nI (o))] (bl []) (fun v9_ u9_ => u9_ = (bl []) ∧ v9_ = some (.int (nI (cmpC f b o)))) := by
  refine Ctr.int (cc := cX4_composedColour) (maxL := 6) (ret := (some .int)) (lv0 := [some (.int (nI (f))), some (.int (nI (b))), some (.int (nI (o))), none, none, none]) (by decide) rfl rfl rfl (Nat.le_of_ble_eq_true rfl) rfl (fun A X E hend => ?_)
  refine V.iconst (v := nI (0)) E dX4_composedColour_0 (by decide) ?_
  refine V.istore_n (lv' := [some (.int (nI (f))), some (.int (nI (b))), some (.int (nI (o))), some (.int (nI (0))), none, none]) E dX4_composedColour_1 rfl (Nat.le_of_ble_eq_true rfl) rfl rfl ?_
  refine V.iconst (v := nI (0)) E dX4_composedColour_2 (by decide) ?_
  refine V.istore (lv' := [some (.int (nI (f))), some (.int (nI (b))), some (.int (nI (o))), some (.int (nI (0))), some (.int (nI (0))), none]) E dX4_composedColour_3 (Nat.le_of_ble_eq_true rfl) rfl rfl ?_
  refine V.iload E dX4_composedColour_5 rfl ?_
  refine V.iconst (v := nI (3)) E dX4_composedColour_7 (by decide) ?_
  refine V.icmp_geN (tgt := 53) E (by omega) (by omega) dX4_composedColour_8 (by decide) (fun q_8 => absurd q_8 (by decide)) (fun q_8 => ?_)
  refine V.iload_n E dX4_composedColour_11 rfl rfl ?_
  refine V.iload E dX4_composedColour_12 rfl ?_
  refine V.callS E (c_X4_part G f 0 (by omega) (by omega)) (bl []) [] gX4_composedColour_X4_part rfl hd_X4_part ⟨⟨Nat.le_of_ble_eq_true rfl, Nat.le_of_ble_eq_true rfl⟩, Nat.le_of_ble_eq_true rfl, Nat.le_of_ble_eq_true rfl⟩ rfl (Nat.le_of_ble_eq_true rfl) rfl dX4_composedColour_14 (List.Perm.refl _) (kc' := 0) (ks' := 0) rfl rfl (rwI (ws' := (bl [])) (List.Perm.refl _) ?_)
  refine V.iload_n E dX4_composedColour_17 rfl rfl ?_
  refine V.imulN E  dX4_composedColour_18 ?_
  refine V.iload_n E dX4_composedColour_19 rfl rfl ?_
  refine V.iload E dX4_composedColour_20 rfl ?_
  refine V.callS E (c_X4_part G b 0 (by omega) (by omega)) (bl []) [.int (nI ((P f 0) * o))] gX4_composedColour_X4_part rfl hd_X4_part ⟨⟨Nat.le_of_ble_eq_true rfl, Nat.le_of_ble_eq_true rfl⟩, Nat.le_of_ble_eq_true rfl, Nat.le_of_ble_eq_true rfl⟩ rfl (Nat.le_of_ble_eq_true rfl) rfl dX4_composedColour_22 (List.Perm.refl _) (kc' := 0) (ks' := 0) rfl rfl (rwI (ws' := (bl [])) (List.Perm.refl _) ?_)
  refine V.bipush (v := nI (16)) E dX4_composedColour_25 (by decide) ?_
  refine V.iload_n E dX4_composedColour_27 rfl rfl ?_
  refine V.isubN E (by omega) dX4_composedColour_28 ?_
  refine V.imulN E  dX4_composedColour_29 ?_
  refine V.iaddN E  dX4_composedColour_30 ?_
  refine V.bipush (v := nI (16)) E dX4_composedColour_31 (by decide) ?_
  refine V.idivN E (Nat.lt_of_le_of_lt (mix_le (P_lt _ _) (P_lt _ _) ho) (by decide)) (by decide) (by decide) dX4_composedColour_33 ?_
  refine V.topN (b := mixK f b o 0) (rfl) ?_
  refine V.istore (lv' := [some (.int (nI (f))), some (.int (nI (b))), some (.int (nI (o))), some (.int (nI (0))), some (.int (nI (0))), some (.int (nI (mixK f b o 0)))]) E dX4_composedColour_34 (Nat.le_of_ble_eq_true rfl) rfl rfl ?_
  refine V.iload_n E dX4_composedColour_36 rfl rfl ?_
  refine V.iload E dX4_composedColour_37 rfl ?_
  refine V.iload E dX4_composedColour_39 rfl ?_
  refine V.callS E (c_X4_partShift G 0 (by omega)) (bl []) [.int (nI (mixK f b o 0)), .int (nI (0))] gX4_composedColour_X4_partShift rfl hd_X4_partShift ⟨⟨Nat.le_of_ble_eq_true rfl, Nat.le_of_ble_eq_true rfl⟩, Nat.le_of_ble_eq_true rfl, Nat.le_of_ble_eq_true rfl⟩ rfl (Nat.le_of_ble_eq_true rfl) rfl dX4_composedColour_41 (List.Perm.refl _) (kc' := 0) (ks' := 0) rfl rfl (rwI (ws' := (bl [])) (List.Perm.refl _) ?_)
  refine V.topN (b := 8) (rfl) ?_
  refine V.ishlN E (by have h0 := mixK_le (f := f) (b := b) 0 ho; have h1 := mixK_le (f := f) (b := b) 1 ho; have h2 := mixK_le (f := f) (b := b) 2 ho; omega) (by decide) dX4_composedColour_44 ?_
  refine V.ior E dX4_composedColour_45 ?_
  refine V.top (y := nI (mixK f b o 0 * 2 ^ 8)) (by show nI 0 ||| nI (mixK f b o 0 * 2 ^ 8) = _; rw [orN 12 (z := 0) rfl (by have := mixK_le (f := f) (b := b) 0 ho; omega), Nat.zero_add]) ?_
  refine V.istore_n (lv' := [some (.int (nI (f))), some (.int (nI (b))), some (.int (nI (o))), some (.int (nI (mixK f b o 0 * 2 ^ 8))), some (.int (nI (0))), some (.int (nI (mixK f b o 0)))]) E dX4_composedColour_46 rfl (Nat.le_of_ble_eq_true rfl) rfl rfl ?_
  refine V.iincN (lv' := [some (.int (nI (f))), some (.int (nI (b))), some (.int (nI (o))), some (.int (nI (mixK f b o 0 * 2 ^ 8))), some (.int (nI (1))), some (.int (nI (mixK f b o 0)))]) E dX4_composedColour_47 rfl (Nat.le_of_ble_eq_true rfl) rfl rfl ?_
  refine V.goto (tgt := 5) E dX4_composedColour_50 (by decide) ?_
  refine V.iload E dX4_composedColour_5 rfl ?_
  refine V.iconst (v := nI (3)) E dX4_composedColour_7 (by decide) ?_
  refine V.icmp_geN (tgt := 53) E (by omega) (by omega) dX4_composedColour_8 (by decide) (fun q_8 => absurd q_8 (by decide)) (fun q_8 => ?_)
  refine V.iload_n E dX4_composedColour_11 rfl rfl ?_
  refine V.iload E dX4_composedColour_12 rfl ?_
  refine V.callS E (c_X4_part G f 1 (by omega) (by omega)) (bl []) [] gX4_composedColour_X4_part rfl hd_X4_part ⟨⟨Nat.le_of_ble_eq_true rfl, Nat.le_of_ble_eq_true rfl⟩, Nat.le_of_ble_eq_true rfl, Nat.le_of_ble_eq_true rfl⟩ rfl (Nat.le_of_ble_eq_true rfl) rfl dX4_composedColour_14 (List.Perm.refl _) (kc' := 0) (ks' := 0) rfl rfl (rwI (ws' := (bl [])) (List.Perm.refl _) ?_)
  refine V.iload_n E dX4_composedColour_17 rfl rfl ?_
  refine V.imulN E  dX4_composedColour_18 ?_
  refine V.iload_n E dX4_composedColour_19 rfl rfl ?_
  refine V.iload E dX4_composedColour_20 rfl ?_
  refine V.callS E (c_X4_part G b 1 (by omega) (by omega)) (bl []) [.int (nI ((P f 1) * o))] gX4_composedColour_X4_part rfl hd_X4_part ⟨⟨Nat.le_of_ble_eq_true rfl, Nat.le_of_ble_eq_true rfl⟩, Nat.le_of_ble_eq_true rfl, Nat.le_of_ble_eq_true rfl⟩ rfl (Nat.le_of_ble_eq_true rfl) rfl dX4_composedColour_22 (List.Perm.refl _) (kc' := 0) (ks' := 0) rfl rfl (rwI (ws' := (bl [])) (List.Perm.refl _) ?_)
  refine V.bipush (v := nI (16)) E dX4_composedColour_25 (by decide) ?_
  refine V.iload_n E dX4_composedColour_27 rfl rfl ?_
  refine V.isubN E (by omega) dX4_composedColour_28 ?_
  refine V.imulN E  dX4_composedColour_29 ?_
  refine V.iaddN E  dX4_composedColour_30 ?_
  refine V.bipush (v := nI (16)) E dX4_composedColour_31 (by decide) ?_
  refine V.idivN E (Nat.lt_of_le_of_lt (mix_le (P_lt _ _) (P_lt _ _) ho) (by decide)) (by decide) (by decide) dX4_composedColour_33 ?_
  refine V.topN (b := mixK f b o 1) (rfl) ?_
  refine V.istore (lv' := [some (.int (nI (f))), some (.int (nI (b))), some (.int (nI (o))), some (.int (nI (mixK f b o 0 * 2 ^ 8))), some (.int (nI (1))), some (.int (nI (mixK f b o 1)))]) E dX4_composedColour_34 (Nat.le_of_ble_eq_true rfl) rfl rfl ?_
  refine V.iload_n E dX4_composedColour_36 rfl rfl ?_
  refine V.iload E dX4_composedColour_37 rfl ?_
  refine V.iload E dX4_composedColour_39 rfl ?_
  refine V.callS E (c_X4_partShift G 1 (by omega)) (bl []) [.int (nI (mixK f b o 1)), .int (nI (mixK f b o 0 * 2 ^ 8))] gX4_composedColour_X4_partShift rfl hd_X4_partShift ⟨⟨Nat.le_of_ble_eq_true rfl, Nat.le_of_ble_eq_true rfl⟩, Nat.le_of_ble_eq_true rfl, Nat.le_of_ble_eq_true rfl⟩ rfl (Nat.le_of_ble_eq_true rfl) rfl dX4_composedColour_41 (List.Perm.refl _) (kc' := 0) (ks' := 0) rfl rfl (rwI (ws' := (bl [])) (List.Perm.refl _) ?_)
  refine V.topN (b := 4) (rfl) ?_
  refine V.ishlN E (by have h0 := mixK_le (f := f) (b := b) 0 ho; have h1 := mixK_le (f := f) (b := b) 1 ho; have h2 := mixK_le (f := f) (b := b) 2 ho; omega) (by decide) dX4_composedColour_44 ?_
  refine V.ior E dX4_composedColour_45 ?_
  refine V.top (y := nI (mixK f b o 0 * 2 ^ 8 + mixK f b o 1 * 2 ^ 4)) (by exact orN 8 (z := mixK f b o 0) rfl (by have := mixK_le (f := f) (b := b) 1 ho; show mixK f b o 1 * 2 ^ 4 < 2 ^ 8; omega)) ?_
  refine V.istore_n (lv' := [some (.int (nI (f))), some (.int (nI (b))), some (.int (nI (o))), some (.int (nI (mixK f b o 0 * 2 ^ 8 + mixK f b o 1 * 2 ^ 4))), some (.int (nI (1))), some (.int (nI (mixK f b o 1)))]) E dX4_composedColour_46 rfl (Nat.le_of_ble_eq_true rfl) rfl rfl ?_
  refine V.iincN (lv' := [some (.int (nI (f))), some (.int (nI (b))), some (.int (nI (o))), some (.int (nI (mixK f b o 0 * 2 ^ 8 + mixK f b o 1 * 2 ^ 4))), some (.int (nI (2))), some (.int (nI (mixK f b o 1)))]) E dX4_composedColour_47 rfl (Nat.le_of_ble_eq_true rfl) rfl rfl ?_
  refine V.goto (tgt := 5) E dX4_composedColour_50 (by decide) ?_
  refine V.iload E dX4_composedColour_5 rfl ?_
  refine V.iconst (v := nI (3)) E dX4_composedColour_7 (by decide) ?_
  refine V.icmp_geN (tgt := 53) E (by omega) (by omega) dX4_composedColour_8 (by decide) (fun q_8 => absurd q_8 (by decide)) (fun q_8 => ?_)
  refine V.iload_n E dX4_composedColour_11 rfl rfl ?_
  refine V.iload E dX4_composedColour_12 rfl ?_
  refine V.callS E (c_X4_part G f 2 (by omega) (by omega)) (bl []) [] gX4_composedColour_X4_part rfl hd_X4_part ⟨⟨Nat.le_of_ble_eq_true rfl, Nat.le_of_ble_eq_true rfl⟩, Nat.le_of_ble_eq_true rfl, Nat.le_of_ble_eq_true rfl⟩ rfl (Nat.le_of_ble_eq_true rfl) rfl dX4_composedColour_14 (List.Perm.refl _) (kc' := 0) (ks' := 0) rfl rfl (rwI (ws' := (bl [])) (List.Perm.refl _) ?_)
  refine V.iload_n E dX4_composedColour_17 rfl rfl ?_
  refine V.imulN E  dX4_composedColour_18 ?_
  refine V.iload_n E dX4_composedColour_19 rfl rfl ?_
  refine V.iload E dX4_composedColour_20 rfl ?_
  refine V.callS E (c_X4_part G b 2 (by omega) (by omega)) (bl []) [.int (nI ((P f 2) * o))] gX4_composedColour_X4_part rfl hd_X4_part ⟨⟨Nat.le_of_ble_eq_true rfl, Nat.le_of_ble_eq_true rfl⟩, Nat.le_of_ble_eq_true rfl, Nat.le_of_ble_eq_true rfl⟩ rfl (Nat.le_of_ble_eq_true rfl) rfl dX4_composedColour_22 (List.Perm.refl _) (kc' := 0) (ks' := 0) rfl rfl (rwI (ws' := (bl [])) (List.Perm.refl _) ?_)
  refine V.bipush (v := nI (16)) E dX4_composedColour_25 (by decide) ?_
  refine V.iload_n E dX4_composedColour_27 rfl rfl ?_
  refine V.isubN E (by omega) dX4_composedColour_28 ?_
  refine V.imulN E  dX4_composedColour_29 ?_
  refine V.iaddN E  dX4_composedColour_30 ?_
  refine V.bipush (v := nI (16)) E dX4_composedColour_31 (by decide) ?_
  refine V.idivN E (Nat.lt_of_le_of_lt (mix_le (P_lt _ _) (P_lt _ _) ho) (by decide)) (by decide) (by decide) dX4_composedColour_33 ?_
  refine V.topN (b := mixK f b o 2) (rfl) ?_
  refine V.istore (lv' := [some (.int (nI (f))), some (.int (nI (b))), some (.int (nI (o))), some (.int (nI (mixK f b o 0 * 2 ^ 8 + mixK f b o 1 * 2 ^ 4))), some (.int (nI (2))), some (.int (nI (mixK f b o 2)))]) E dX4_composedColour_34 (Nat.le_of_ble_eq_true rfl) rfl rfl ?_
  refine V.iload_n E dX4_composedColour_36 rfl rfl ?_
  refine V.iload E dX4_composedColour_37 rfl ?_
  refine V.iload E dX4_composedColour_39 rfl ?_
  refine V.callS E (c_X4_partShift G 2 (by omega)) (bl []) [.int (nI (mixK f b o 2)), .int (nI (mixK f b o 0 * 2 ^ 8 + mixK f b o 1 * 2 ^ 4))] gX4_composedColour_X4_partShift rfl hd_X4_partShift ⟨⟨Nat.le_of_ble_eq_true rfl, Nat.le_of_ble_eq_true rfl⟩, Nat.le_of_ble_eq_true rfl, Nat.le_of_ble_eq_true rfl⟩ rfl (Nat.le_of_ble_eq_true rfl) rfl dX4_composedColour_41 (List.Perm.refl _) (kc' := 0) (ks' := 0) rfl rfl (rwI (ws' := (bl [])) (List.Perm.refl _) ?_)
  refine V.topN (b := 0) (rfl) ?_
  refine V.ishlN E (by have h0 := mixK_le (f := f) (b := b) 0 ho; have h1 := mixK_le (f := f) (b := b) 1 ho; have h2 := mixK_le (f := f) (b := b) 2 ho; omega) (by decide) dX4_composedColour_44 ?_
  refine V.ior E dX4_composedColour_45 ?_
  refine V.top (y := nI (cmpC f b o)) (by rw [show mixK f b o 2 * 2 ^ 0 = mixK f b o 2 by omega]; exact orN 4 (z := mixK f b o 0 * 2 ^ 4 + mixK f b o 1) (by omega) (by have := mixK_le (f := f) (b := b) 2 ho; omega)) ?_
  refine V.istore_n (lv' := [some (.int (nI (f))), some (.int (nI (b))), some (.int (nI (o))), some (.int (nI (cmpC f b o))), some (.int (nI (2))), some (.int (nI (mixK f b o 2)))]) E dX4_composedColour_46 rfl (Nat.le_of_ble_eq_true rfl) rfl rfl ?_
  refine V.iincN (lv' := [some (.int (nI (f))), some (.int (nI (b))), some (.int (nI (o))), some (.int (nI (cmpC f b o))), some (.int (nI (3))), some (.int (nI (mixK f b o 2)))]) E dX4_composedColour_47 rfl (Nat.le_of_ble_eq_true rfl) rfl rfl ?_
  refine V.goto (tgt := 5) E dX4_composedColour_50 (by decide) ?_
  refine V.iload E dX4_composedColour_5 rfl ?_
  refine V.iconst (v := nI (3)) E dX4_composedColour_7 (by decide) ?_
  refine V.icmp_geN (tgt := 53) E (by omega) (by omega) dX4_composedColour_8 (by decide) (fun q_8 => ?_) (fun q_8 => absurd q_8 (by decide))
  refine V.iload_n E dX4_composedColour_53 rfl rfl ?_
  exact hend _ _ _ _ dX4_composedColour_54 (nrI _) ⟨rfl, rfl⟩
abbrev rm_c_X4_beside : Room := { frames := 0, cells := 0, slots := 0, locals := 0 }
theorem hd_X4_beside : yX4_beside.cls ≠ "java/lang/invoke/MethodHandle" ∧ yX4_beside.cls ≠ "java/lang/invoke/VarHandle" ∧ (parseMethodDescriptor yX4_beside.desc).map (fun d => d.parameters.length) = some 2 := by decide +kernel
set_option maxRecDepth 100000 in
set_option maxHeartbeats 8000000 in
theorem c_X4_beside (G : VC) (p : Nat) (k : Nat) (hp : p < 48) (hk : k < 4) : Ctr yX4_beside wsX4_beside rm_c_X4_beside G [.int (nI (p)), .int (nI (k))] (bl []) (fun v9_ u9_ => u9_ = (bl []) ∧ v9_ = some (.int (nbI p k))) := by
  refine Ctr.int (cc := cX4_beside) (maxL := 3) (ret := (some .int)) (lv0 := [some (.int (nI (p))), some (.int (nI (k))), none]) (by decide) rfl rfl rfl (Nat.le_of_ble_eq_true rfl) rfl (fun A X E hend => ?_)
  refine V.iload_n E dX4_beside_0 rfl rfl ?_
  refine V.bipush (v := nI (8)) E dX4_beside_1 (by decide) ?_
  refine V.iremN E (by omega) (by omega) (by omega) dX4_beside_3 ?_
  refine V.istore_n (lv' := [some (.int (nI (p))), some (.int (nI (k))), some (.int (nI (p % 8)))]) E dX4_beside_4 rfl (Nat.le_of_ble_eq_true rfl) rfl rfl ?_
  refine V.iload_n E dX4_beside_5 rfl rfl ?_
  rcases (show k = 0 ∨ k = 1 ∨ k = 2 ∨ k = 3 by omega) with rfl | rfl | rfl | rfl
  · refine V.tableIn (off := 26) (tgt := 32) E dX4_beside_6 (by decide) (by decide) (by decide) (by decide) ?_
    refine V.iload_n E dX4_beside_32 rfl rfl ?_
    refine V.bipush (v := nI (8)) E dX4_beside_33 (by decide) ?_
    refine V.icmp_ltN (tgt := 45) E (by omega) (by omega) dX4_beside_35 (by decide) (fun q_35 => ?_) (fun q_35 => ?_)
    · refine V.iconst (v := (-1 : Int32)) E dX4_beside_45 (by decide) ?_
      refine V.top (y := nbI p 0) (by first | exact (nbI_t (p := p) (k := 0) (decide_eq_true (by omega))).symm | exact (nbI_f (p := p) (k := 0) (decide_eq_false (by omega))).symm) ?_
      exact hend _ _ _ _ dX4_beside_46 (nrI _) ⟨rfl, rfl⟩
    · refine V.iload_n E dX4_beside_38 rfl rfl ?_
      refine V.bipush (v := nI (8)) E dX4_beside_39 (by decide) ?_
      refine V.isubN E (by omega) dX4_beside_41 ?_
      refine V.goto (tgt := 46) E dX4_beside_42 (by decide) ?_
      refine V.top (y := nbI p 0) (by first | exact (nbI_t (p := p) (k := 0) (decide_eq_true (by omega))).symm | exact (nbI_f (p := p) (k := 0) (decide_eq_false (by omega))).symm) ?_
      exact hend _ _ _ _ dX4_beside_46 (nrI _) ⟨rfl, rfl⟩
  · refine V.tableIn (off := 41) (tgt := 47) E dX4_beside_6 (by decide) (by decide) (by decide) (by decide) ?_
    refine V.iload_n E dX4_beside_47 rfl rfl ?_
    refine V.bipush (v := nI (40)) E dX4_beside_48 (by decide) ?_
    refine V.icmp_geN (tgt := 60) E (by omega) (by omega) dX4_beside_50 (by decide) (fun q_50 => ?_) (fun q_50 => ?_)
    · refine V.iconst (v := (-1 : Int32)) E dX4_beside_60 (by decide) ?_
      refine V.top (y := nbI p 1) (by first | exact (nbI_t (p := p) (k := 1) (decide_eq_true (by omega))).symm | exact (nbI_f (p := p) (k := 1) (decide_eq_false (by omega))).symm) ?_
      exact hend _ _ _ _ dX4_beside_61 (nrI _) ⟨rfl, rfl⟩
    · refine V.iload_n E dX4_beside_53 rfl rfl ?_
      refine V.bipush (v := nI (8)) E dX4_beside_54 (by decide) ?_
      refine V.iaddN E  dX4_beside_56 ?_
      refine V.goto (tgt := 61) E dX4_beside_57 (by decide) ?_
      refine V.top (y := nbI p 1) (by first | exact (nbI_t (p := p) (k := 1) (decide_eq_true (by omega))).symm | exact (nbI_f (p := p) (k := 1) (decide_eq_false (by omega))).symm) ?_
      exact hend _ _ _ _ dX4_beside_61 (nrI _) ⟨rfl, rfl⟩
  · refine V.tableIn (off := 56) (tgt := 62) E dX4_beside_6 (by decide) (by decide) (by decide) (by decide) ?_
    refine V.iload_n E dX4_beside_62 rfl rfl ?_
    refine V.if_leN (tgt := 72) E (by omega) dX4_beside_63 (by decide) (fun q_63 => ?_) (fun q_63 => ?_)
    · refine V.iconst (v := (-1 : Int32)) E dX4_beside_72 (by decide) ?_
      refine V.top (y := nbI p 2) (by first | exact (nbI_t (p := p) (k := 2) (decide_eq_true (by omega))).symm | exact (nbI_f (p := p) (k := 2) (decide_eq_false (by omega))).symm) ?_
      exact hend _ _ _ _ dX4_beside_73 (nrI _) ⟨rfl, rfl⟩
    · refine V.iload_n E dX4_beside_66 rfl rfl ?_
      refine V.iconst (v := nI (1)) E dX4_beside_67 (by decide) ?_
      refine V.isubN E (by omega) dX4_beside_68 ?_
      refine V.goto (tgt := 73) E dX4_beside_69 (by decide) ?_
      refine V.top (y := nbI p 2) (by first | exact (nbI_t (p := p) (k := 2) (decide_eq_true (by omega))).symm | exact (nbI_f (p := p) (k := 2) (decide_eq_false (by omega))).symm) ?_
      exact hend _ _ _ _ dX4_beside_73 (nrI _) ⟨rfl, rfl⟩
  · refine V.tableOut (tgt := 74) E dX4_beside_6 (by decide) (by decide) ?_
    refine V.iload_n E dX4_beside_74 rfl rfl ?_
    refine V.bipush (v := nI (7)) E dX4_beside_75 (by decide) ?_
    refine V.icmp_geN (tgt := 86) E (by omega) (by omega) dX4_beside_77 (by decide) (fun q_77 => ?_) (fun q_77 => ?_)
    · refine V.iconst (v := (-1 : Int32)) E dX4_beside_86 (by decide) ?_
      refine V.top (y := nbI p 3) (by first | exact (nbI_t (p := p) (k := 3) (decide_eq_true (by omega))).symm | exact (nbI_f (p := p) (k := 3) (decide_eq_false (by omega))).symm) ?_
      exact hend _ _ _ _ dX4_beside_87 (nrI _) ⟨rfl, rfl⟩
    · refine V.iload_n E dX4_beside_80 rfl rfl ?_
      refine V.iconst (v := nI (1)) E dX4_beside_81 (by decide) ?_
      refine V.iaddN E  dX4_beside_82 ?_
      refine V.goto (tgt := 87) E dX4_beside_83 (by decide) ?_
      refine V.top (y := nbI p 3) (by first | exact (nbI_t (p := p) (k := 3) (decide_eq_true (by omega))).symm | exact (nbI_f (p := p) (k := 3) (decide_eq_false (by omega))).symm) ?_
      exact hend _ _ _ _ dX4_beside_87 (nrI _) ⟨rfl, rfl⟩
abbrev rm_c_X4_isAtEdge : Room := { frames := 0, cells := 0, slots := 0, locals := 0 }
theorem hd_X4_isAtEdge : yX4_isAtEdge.cls ≠ "java/lang/invoke/MethodHandle" ∧ yX4_isAtEdge.cls ≠ "java/lang/invoke/VarHandle" ∧ (parseMethodDescriptor yX4_isAtEdge.desc).map (fun d => d.parameters.length) = some 1 := by decide +kernel
set_option maxRecDepth 100000 in
set_option maxHeartbeats 8000000 in
theorem c_X4_isAtEdge (G : VC) (p : Nat) (hp : p < 48) : Ctr yX4_isAtEdge wsX4_isAtEdge rm_c_X4_isAtEdge G [.int (nI (p))] (bl []) (fun v9_ u9_ => u9_ = (bl []) ∧ v9_ = some (.int (nI (bN (edge p))))) := by
  refine Ctr.int (cc := cX4_isAtEdge) (maxL := 3) (ret := (some .boolean)) (lv0 := [some (.int (nI (p))), none, none]) (by decide) rfl rfl rfl (Nat.le_of_ble_eq_true rfl) rfl (fun A X E hend => ?_)
  refine V.iload_n E dX4_isAtEdge_0 rfl rfl ?_
  refine V.bipush (v := nI (8)) E dX4_isAtEdge_1 (by decide) ?_
  refine V.iremN E (by omega) (by omega) (by omega) dX4_isAtEdge_3 ?_
  refine V.istore_n (lv' := [some (.int (nI (p))), some (.int (nI (p % 8))), none]) E dX4_isAtEdge_4 rfl (Nat.le_of_ble_eq_true rfl) rfl rfl ?_
  refine V.iload_n E dX4_isAtEdge_5 rfl rfl ?_
  refine V.bipush (v := nI (8)) E dX4_isAtEdge_6 (by decide) ?_
  refine V.idivN E (by omega) (by omega) (by omega) dX4_isAtEdge_8 ?_
  refine V.istore_n (lv' := [some (.int (nI (p))), some (.int (nI (p % 8))), some (.int (nI (p / 8)))]) E dX4_isAtEdge_9 rfl (Nat.le_of_ble_eq_true rfl) rfl rfl ?_
  refine V.iload_n E dX4_isAtEdge_10 rfl rfl ?_
  refine V.if_eqN (tgt := 29) E (by omega) dX4_isAtEdge_11 (by decide) (fun q_11 => ?_) (fun q_11 => ?_)
  · refine V.iconst (v := nI (1)) E dX4_isAtEdge_29 (by decide) ?_
    refine V.goto (tgt := 34) E dX4_isAtEdge_30 (by decide) ?_
    refine V.topN (b := bN (edge p)) (by first | exact (bN_t (decide_eq_true (by omega))).symm | exact (bN_f (decide_eq_false (by omega))).symm) ?_
    exact hend _ _ _ _ dX4_isAtEdge_34 (nrB _) ⟨rfl, rfl⟩
  · refine V.iload_n E dX4_isAtEdge_14 rfl rfl ?_
    refine V.bipush (v := nI (7)) E dX4_isAtEdge_15 (by decide) ?_
    refine V.icmp_eqN (tgt := 29) E (by omega) (by omega) dX4_isAtEdge_17 (by decide) (fun q_17 => ?_) (fun q_17 => ?_)
    · refine V.iconst (v := nI (1)) E dX4_isAtEdge_29 (by decide) ?_
      refine V.goto (tgt := 34) E dX4_isAtEdge_30 (by decide) ?_
      refine V.topN (b := bN (edge p)) (by first | exact (bN_t (decide_eq_true (by omega))).symm | exact (bN_f (decide_eq_false (by omega))).symm) ?_
      exact hend _ _ _ _ dX4_isAtEdge_34 (nrB _) ⟨rfl, rfl⟩
    · refine V.iload_n E dX4_isAtEdge_20 rfl rfl ?_
      refine V.if_eqN (tgt := 29) E (by omega) dX4_isAtEdge_21 (by decide) (fun q_21 => ?_) (fun q_21 => ?_)
      · refine V.iconst (v := nI (1)) E dX4_isAtEdge_29 (by decide) ?_
        refine V.goto (tgt := 34) E dX4_isAtEdge_30 (by decide) ?_
        refine V.topN (b := bN (edge p)) (by first | exact (bN_t (decide_eq_true (by omega))).symm | exact (bN_f (decide_eq_false (by omega))).symm) ?_
        exact hend _ _ _ _ dX4_isAtEdge_34 (nrB _) ⟨rfl, rfl⟩
      · refine V.iload_n E dX4_isAtEdge_24 rfl rfl ?_
        refine V.iconst (v := nI (5)) E dX4_isAtEdge_25 (by decide) ?_
        refine V.icmp_neN (tgt := 33) E (by omega) (by omega) dX4_isAtEdge_26 (by decide) (fun q_26 => ?_) (fun q_26 => ?_)
        · refine V.iconst (v := nI (0)) E dX4_isAtEdge_33 (by decide) ?_
          refine V.topN (b := bN (edge p)) (by first | exact (bN_t (decide_eq_true (by omega))).symm | exact (bN_f (decide_eq_false (by omega))).symm) ?_
          exact hend _ _ _ _ dX4_isAtEdge_34 (nrB _) ⟨rfl, rfl⟩
        · refine V.iconst (v := nI (1)) E dX4_isAtEdge_29 (by decide) ?_
          refine V.goto (tgt := 34) E dX4_isAtEdge_30 (by decide) ?_
          refine V.topN (b := bN (edge p)) (by first | exact (bN_t (decide_eq_true (by omega))).symm | exact (bN_f (decide_eq_false (by omega))).symm) ?_
          exact hend _ _ _ _ dX4_isAtEdge_34 (nrB _) ⟨rfl, rfl⟩
abbrev rm_c_X4_sum : Room := { frames := 0, cells := 0, slots := 0, locals := 0 }
theorem hd_X4_sum : yX4_sum.cls ≠ "java/lang/invoke/MethodHandle" ∧ yX4_sum.cls ≠ "java/lang/invoke/VarHandle" ∧ (parseMethodDescriptor yX4_sum.desc).map (fun d => d.parameters.length) = some 1 := by decide +kernel
set_option maxRecDepth 100000 in
set_option maxHeartbeats 8000000 in
theorem c_X4_sum (G : VC) (a : Nat) (f : Nat → Nat) : Ctr yX4_sum wsX4_sum rm_c_X4_sum G [.ref (a)] (bl [[(a, kA (gI G) 48 (nA f))]]) (fun v9_ u9_ => u9_ = (bl [[(a, kA (gI G) 48 (nA f))]]) ∧ v9_ = some (.int (nI (sumN 48 f)))) := by
  refine Ctr.int (cc := cX4_sum) (maxL := 6) (ret := (some .int)) (lv0 := [some (.ref (a)), none, none, none, none, none]) (by decide) rfl rfl rfl (Nat.le_of_ble_eq_true rfl) rfl (fun A X E hend => ?_)
  refine V.iconst (v := nI (0)) E dX4_sum_0 (by decide) ?_
  refine V.istore_n (lv' := [some (.ref (a)), some (.int (nI (0))), none, none, none, none]) E dX4_sum_1 rfl (Nat.le_of_ble_eq_true rfl) rfl rfl ?_
  refine V.aload_n E dX4_sum_2 rfl rfl ?_
  refine V.astore_n (lv' := [some (.ref (a)), some (.int (nI (0))), some (.ref (a)), none, none, none]) E dX4_sum_3 rfl (Nat.le_of_ble_eq_true rfl) rfl rfl ?_
  refine V.aload_n E dX4_sum_4 rfl rfl ?_
  refine V.alen E 0 rfl dX4_sum_5 ?_
  refine V.istore_n (lv' := [some (.ref (a)), some (.int (nI (0))), some (.ref (a)), some (.int (nI (48))), none, none]) E dX4_sum_6 rfl (Nat.le_of_ble_eq_true rfl) rfl rfl ?_
  refine V.iconst (v := nI (0)) E dX4_sum_7 (by decide) ?_
  refine V.istore (lv' := [some (.ref (a)), some (.int (nI (0))), some (.ref (a)), some (.int (nI (48))), some (.int (nI (0))), none]) E dX4_sum_8 (Nat.le_of_ble_eq_true rfl) rfl rfl ?_
  refine V.drop (lv' := [none, some (.int (nI (0))), some (.ref (a)), some (.int (nI (48))), some (.int (nI (0))), none]) [false, true, true, true, true, true] rfl ?_
  refine V.locN (b := sumN 0 f) (lv' := [none, some (.int (nI (sumN 0 f))), some (.ref (a)), some (.int (nI (48))), some (.int (nI (0))), none]) 1 (rfl) rfl rfl ?_
  refine loopN (P := fun i10 => V G A X rm_c_X4_sum (bl [[(a, kA (gI G) 48 (nA f))]]) 0 0 10 [none, some (.int (nI (sumN i10 f))), some (.ref (a)), some (.int (nI (48))), some (.int (nI (i10))), none] []) 48 (fun i10 hi_10 ih_10 => ?_) 0 (Nat.zero_le _)
  refine V.iload E dX4_sum_10 rfl ?_
  refine V.iload_n E dX4_sum_12 rfl rfl ?_
  refine V.icmp_geN (tgt := 33) E (by omega) (by omega) dX4_sum_13 (by decide) (fun q_13 => ?_) (fun q_13 => ?_)
  · obtain rfl : i10 = 48 := by omega
    refine V.iload_n E dX4_sum_33 rfl rfl ?_
    exact hend _ _ _ _ dX4_sum_34 (nrI _) ⟨rfl, rfl⟩
  · refine V.aload_n E dX4_sum_16 rfl rfl ?_
    refine V.iload E dX4_sum_17 rfl ?_
    refine V.ialdN (v := nI (f i10)) E 0 rfl (by omega) (by decide) (rfl) dX4_sum_19 ?_
    refine V.istore (lv' := [none, some (.int (nI (sumN i10 f))), some (.ref (a)), some (.int (nI (48))), some (.int (nI (i10))), some (.int (nI (f i10)))]) E dX4_sum_20 (Nat.le_of_ble_eq_true rfl) rfl rfl ?_
    refine V.iload_n E dX4_sum_22 rfl rfl ?_
    refine V.iload E dX4_sum_23 rfl ?_
    refine V.iaddN E  dX4_sum_25 ?_
    refine V.istore_n (lv' := [none, some (.int (nI ((sumN i10 f) + (f i10)))), some (.ref (a)), some (.int (nI (48))), some (.int (nI (i10))), some (.int (nI (f i10)))]) E dX4_sum_26 rfl (Nat.le_of_ble_eq_true rfl) rfl rfl ?_
    refine V.iincN (lv' := [none, some (.int (nI ((sumN i10 f) + (f i10)))), some (.ref (a)), some (.int (nI (48))), some (.int (nI (i10 + 1))), some (.int (nI (f i10)))]) E dX4_sum_27 rfl (Nat.le_of_ble_eq_true rfl) rfl rfl ?_
    refine V.goto (tgt := 10) E dX4_sum_30 (by decide) ?_
    refine V.drop (lv' := [none, some (.int (nI ((sumN i10 f) + (f i10)))), some (.ref (a)), some (.int (nI (48))), some (.int (nI (i10 + 1))), none]) [true, true, true, true, true, false] rfl ?_
    refine V.locN (b := sumN (i10 + 1) f) (lv' := [none, some (.int (nI (sumN (i10 + 1) f))), some (.ref (a)), some (.int (nI (48))), some (.int (nI (i10 + 1))), none]) 1 (rfl) rfl rfl ?_
    exact ih_10 (by omega)
abbrev rm_c_X4_sameColours : Room := { frames := 0, cells := 0, slots := 0, locals := 0 }
theorem hd_X4_sameColours : yX4_sameColours.cls ≠ "java/lang/invoke/MethodHandle" ∧ yX4_sameColours.cls ≠ "java/lang/invoke/VarHandle" ∧ (parseMethodDescriptor yX4_sameColours.desc).map (fun d => d.parameters.length) = some 2 := by decide +kernel
set_option maxRecDepth 100000 in
set_option maxHeartbeats 8000000 in
theorem c_X4_sameColours (G : VC) (a : Nat) (b : Nat) (f : Nat → Nat) (g : Nat → Nat) (hf : ∀ j, j < 48 → f j < 4096) (hg : ∀ j, j < 48 → g j < 4096) : Ctr yX4_sameColours wsX4_sameColours rm_c_X4_sameColours G [.ref (a), .ref (b)] (bl [[(a, kA (gI G) 48 (nA f))], [(b, kA (gI G) 48 (nA g))]]) (fun v9_ u9_ => u9_ = (bl [[(a, kA (gI G) 48 (nA f))], [(b, kA (gI G) 48 (nA g))]]) ∧ v9_ = some (.int (nI (sumN 48 (fun j => bN (decide (f j = g j))))))) := by
  refine Ctr.int (cc := cX4_sameColours) (maxL := 4) (ret := (some .int)) (lv0 := [some (.ref (a)), some (.ref (b)), none, none]) (by decide) rfl rfl rfl (Nat.le_of_ble_eq_true rfl) rfl (fun A X E hend => ?_)
  refine V.iconst (v := nI (0)) E dX4_sameColours_0 (by decide) ?_
  refine V.istore_n (lv' := [some (.ref (a)), some (.ref (b)), some (.int (nI (0))), none]) E dX4_sameColours_1 rfl (Nat.le_of_ble_eq_true rfl) rfl rfl ?_
  refine V.iconst (v := nI (0)) E dX4_sameColours_2 (by decide) ?_
  refine V.istore_n (lv' := [some (.ref (a)), some (.ref (b)), some (.int (nI (0))), some (.int (nI (0)))]) E dX4_sameColours_3 rfl (Nat.le_of_ble_eq_true rfl) rfl rfl ?_
  refine V.locN (b := sumN 0 (fun j => bN (decide (f j = g j)))) (lv' := [some (.ref (a)), some (.ref (b)), some (.int (nI (sumN 0 (fun j => bN (decide (f j = g j)))))), some (.int (nI (0)))]) 2 (rfl) rfl rfl ?_
  refine loopN (P := fun i4 => V G A X rm_c_X4_sameColours (bl [[(a, kA (gI G) 48 (nA f))], [(b, kA (gI G) 48 (nA g))]]) 0 0 4 [some (.ref (a)), some (.ref (b)), some (.int (nI (sumN i4 (fun j => bN (decide (f j = g j)))))), some (.int (nI (i4)))] []) 48 (fun i4 hi_4 ih_4 => ?_) 0 (Nat.zero_le _)
  refine V.iload_n E dX4_sameColours_4 rfl rfl ?_
  refine V.bipush (v := nI (48)) E dX4_sameColours_5 (by decide) ?_
  refine V.icmp_geN (tgt := 28) E (by omega) (by omega) dX4_sameColours_7 (by decide) (fun q_7 => ?_) (fun q_7 => ?_)
  · obtain rfl : i4 = 48 := by omega
    refine V.iload_n E dX4_sameColours_28 rfl rfl ?_
    exact hend _ _ _ _ dX4_sameColours_29 (nrI _) ⟨rfl, rfl⟩
  · refine V.aload_n E dX4_sameColours_10 rfl rfl ?_
    refine V.iload_n E dX4_sameColours_11 rfl rfl ?_
    refine V.ialdN (v := nI (f i4)) E 0 rfl (by omega) (by decide) (rfl) dX4_sameColours_12 ?_
    refine V.aload_n E dX4_sameColours_13 rfl rfl ?_
    refine V.iload_n E dX4_sameColours_14 rfl rfl ?_
    refine V.ialdN (v := nI (g i4)) E 1 rfl (by omega) (by decide) (rfl) dX4_sameColours_15 ?_
    refine V.icmp_neN (tgt := 22) E (Nat.lt_trans (hf _ (by omega)) (by decide)) (Nat.lt_trans (hg _ (by omega)) (by decide)) dX4_sameColours_16 (by decide) (fun q_16 => ?_) (fun q_16 => ?_)
    · refine V.iincN (lv' := [some (.ref (a)), some (.ref (b)), some (.int (nI (sumN i4 (fun j => bN (decide (f j = g j)))))), some (.int (nI (i4 + 1)))]) E dX4_sameColours_22 rfl (Nat.le_of_ble_eq_true rfl) rfl rfl ?_
      refine V.goto (tgt := 4) E dX4_sameColours_25 (by decide) ?_
      refine V.locN (b := sumN (i4 + 1) (fun j => bN (decide (f j = g j)))) (lv' := [some (.ref (a)), some (.ref (b)), some (.int (nI (sumN (i4 + 1) (fun j => bN (decide (f j = g j)))))), some (.int (nI (i4 + 1)))]) 2 (by simp [sumN, bN, q_16]) rfl rfl ?_
      exact ih_4 (by omega)
    · refine V.iincN (lv' := [some (.ref (a)), some (.ref (b)), some (.int (nI (sumN i4 (fun j => bN (decide (f j = g j))) + 1))), some (.int (nI (i4)))]) E dX4_sameColours_19 rfl (Nat.le_of_ble_eq_true rfl) rfl rfl ?_
      refine V.iincN (lv' := [some (.ref (a)), some (.ref (b)), some (.int (nI (sumN i4 (fun j => bN (decide (f j = g j))) + 1))), some (.int (nI (i4 + 1)))]) E dX4_sameColours_22 rfl (Nat.le_of_ble_eq_true rfl) rfl rfl ?_
      refine V.goto (tgt := 4) E dX4_sameColours_25 (by decide) ?_
      refine V.locN (b := sumN (i4 + 1) (fun j => bN (decide (f j = g j)))) (lv' := [some (.ref (a)), some (.ref (b)), some (.int (nI (sumN (i4 + 1) (fun j => bN (decide (f j = g j)))))), some (.int (nI (i4 + 1)))]) 2 (by simp [sumN, bN, q_16]) rfl rfl ?_
      exact ih_4 (by omega)
