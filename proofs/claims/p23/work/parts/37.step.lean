/-! isStep -/
theorem hd_L_isStep : yL_isStep.cls ≠ "java/lang/invoke/MethodHandle" ∧ yL_isStep.cls ≠ "java/lang/invoke/VarHandle" ∧ (parseMethodDescriptor yL_isStep.desc).map (fun d => d.parameters.length) = some 4 := by decide +kernel
set_option maxRecDepth 100000 in
set_option maxHeartbeats 8000000 in
theorem o_isStep (G : VC) (a1 : AD) (h1 : AD) (a2 : AD) (h2 : AD) (q1 : OQ) (j1 : OJ) (q2 : OQ) (j2 : OJ) (x_ : Int32) (y_ : Int32) (h : Rel q1 q2) : Ctr yL_isStep wsL_isStep rm_o_isStep G [.ref (a1 0 0), .ref (a2 0 0), .int (x_), .int (y_)] (bl [obW G a1 h1 q1 j1, obW G a2 h2 q2 j2, slB G q1, slB G q2]) (fun v9_ u9_ => ∃ zz : OQ × OJ × OQ × OJ, u9_ = (bl [obW G a1 h1 zz.1 zz.2.1, obW G a2 h2 zz.2.2.1 zz.2.2.2, slB G zz.1, slB G zz.2.2.1]) ∧ v9_ = some (.int (nI (1))) ∧ (Rel zz.1 zz.2.2.1)) := by
  refine Ctr.int (cc := cL_isStep) (maxL := 14) (ret := (some .boolean)) (lv0 := [some (.ref (a1 0 0)), some (.ref (a2 0 0)), some (.int (x_)), some (.int (y_)), none, none, none, none, none, none, none, none, none, none]) (by decide) rfl rfl rfl (Nat.le_of_ble_eq_true rfl) rfl (fun A X E hend => ?_)
  refine V.iload_n E dL_isStep_0 rfl rfl ?_
  refine V.iconst (v := nI (4)) E dL_isStep_1 (by decide) ?_
  refine V.ishr E dL_isStep_2 ?_
  refine V.nm (fun z_ ez_ => ?_)
  refine V.istore (lv' := [some (.ref (a1 0 0)), some (.ref (a2 0 0)), some (.int (x_)), some (.int (y_)), some (.int (z_)), none, none, none, none, none, none, none, none, none]) E dL_isStep_3 (Nat.le_of_ble_eq_true rfl) rfl rfl ?_
  refine V.iload E dL_isStep_5 rfl ?_
  refine V.bipush (v := nI (48)) E dL_isStep_7 (by decide) ?_
  refine V.callS E (c_L_up G z_ 48 (by decide) (by decide)) (bl [obW G a1 h1 q1 j1, obW G a2 h2 q2 j2, slB G q1, slB G q2]) [] gL_isStep_L_up rfl hd_L_up ⟨⟨Nat.le_of_ble_eq_true rfl, Nat.le_of_ble_eq_true rfl⟩, Nat.le_of_ble_eq_true rfl, Nat.le_of_ble_eq_true rfl⟩ rfl (Nat.le_of_ble_eq_true rfl) rfl dL_isStep_9 (List.Perm.refl _) (kc' := 0) (ks' := 0) rfl rfl (rwI (ws' := (bl [obW G a1 h1 q1 j1, obW G a2 h2 q2 j2, slB G q1, slB G q2])) (List.Perm.refl _) ?_)
  refine V.nmN (fun p_ ep_ => ?_)
  have hp : p_ < 48 := by rw [ep_]; exact upv_lt _ (by decide)
  refine V.istore (lv' := [some (.ref (a1 0 0)), some (.ref (a2 0 0)), some (.int (x_)), some (.int (y_)), some (.int (z_)), some (.int (nI (p_))), none, none, none, none, none, none, none, none]) E dL_isStep_12 (Nat.le_of_ble_eq_true rfl) rfl rfl ?_
  refine V.iload E dL_isStep_14 rfl ?_
  refine V.bipush (v := nI (6)) E dL_isStep_16 (by decide) ?_
  refine V.ishr E dL_isStep_18 ?_
  refine V.iconst (v := nI (4)) E dL_isStep_19 (by decide) ?_
  refine V.callS E (c_L_up G ((z_) >>> ((nI (6)) &&& 31)) 4 (by decide) (by decide)) (bl [obW G a1 h1 q1 j1, obW G a2 h2 q2 j2, slB G q1, slB G q2]) [] gL_isStep_L_up rfl hd_L_up ⟨⟨Nat.le_of_ble_eq_true rfl, Nat.le_of_ble_eq_true rfl⟩, Nat.le_of_ble_eq_true rfl, Nat.le_of_ble_eq_true rfl⟩ rfl (Nat.le_of_ble_eq_true rfl) rfl dL_isStep_20 (List.Perm.refl _) (kc' := 0) (ks' := 0) rfl rfl (rwI (ws' := (bl [obW G a1 h1 q1 j1, obW G a2 h2 q2 j2, slB G q1, slB G q2])) (List.Perm.refl _) ?_)
  have hJ_31 : ∀ (fr : Bool), V G A X rm_o_isStep (bl [obW G a1 h1 q1 j1, obW G a2 h2 q2 j2, slB G q1, slB G q2]) 0 0 31 [some (.ref (a1 0 0)), some (.ref (a2 0 0)), some (.int (x_)), some (.int (y_)), some (.int (z_)), some (.int (nI (p_))), none, none, none, none, none, none, none, none] [.int (nI (bN fr))] := by
    intro fr
    refine V.istore (lv' := [some (.ref (a1 0 0)), some (.ref (a2 0 0)), some (.int (x_)), some (.int (y_)), some (.int (z_)), some (.int (nI (p_))), some (.int (nI (bN fr))), none, none, none, none, none, none, none]) E dL_isStep_31 (Nat.le_of_ble_eq_true rfl) rfl rfl ?_
    refine V.iload_n E dL_isStep_33 rfl rfl ?_
    refine V.iconst (v := nI (3)) E dL_isStep_34 (by decide) ?_
    refine V.callS E (c_L_up G y_ 3 (by decide) (by decide)) (bl [obW G a1 h1 q1 j1, obW G a2 h2 q2 j2, slB G q1, slB G q2]) [] gL_isStep_L_up rfl hd_L_up ⟨⟨Nat.le_of_ble_eq_true rfl, Nat.le_of_ble_eq_true rfl⟩, Nat.le_of_ble_eq_true rfl, Nat.le_of_ble_eq_true rfl⟩ rfl (Nat.le_of_ble_eq_true rfl) rfl dL_isStep_35 (List.Perm.refl _) (kc' := 0) (ks' := 0) rfl rfl (rwI (ws' := (bl [obW G a1 h1 q1 j1, obW G a2 h2 q2 j2, slB G q1, slB G q2])) (List.Perm.refl _) ?_)
    have hJ_77 : ∀ (c : Nat) (jj : OJ) (hc : c < 4096), V G A X rm_o_isStep (bl [obW G a1 h1 q1 jj, obW G a2 h2 q2 j2, slB G q1, slB G q2]) 0 0 77 [some (.ref (a1 0 0)), some (.ref (a2 0 0)), some (.int (x_)), some (.int (y_)), some (.int (z_)), some (.int (nI (p_))), some (.int (nI (bN fr))), none, none, none, none, none, none, none] [.int (nI (c))] := by
      intro c jj hc
      refine V.istore (lv' := [some (.ref (a1 0 0)), some (.ref (a2 0 0)), some (.int (x_)), some (.int (y_)), some (.int (z_)), some (.int (nI (p_))), some (.int (nI (bN fr))), some (.int (nI (c))), none, none, none, none, none, none]) E dL_isStep_77 (Nat.le_of_ble_eq_true rfl) rfl rfl ?_
      refine V.iload_n E dL_isStep_79 rfl rfl ?_
      refine V.bipush (v := nI (15)) E dL_isStep_80 (by decide) ?_
      refine V.callS E (c_L_up G x_ 15 (by decide) (by decide)) (bl [obW G a1 h1 q1 jj, obW G a2 h2 q2 j2, slB G q1, slB G q2]) [] gL_isStep_L_up rfl hd_L_up ⟨⟨Nat.le_of_ble_eq_true rfl, Nat.le_of_ble_eq_true rfl⟩, Nat.le_of_ble_eq_true rfl, Nat.le_of_ble_eq_true rfl⟩ rfl (Nat.le_of_ble_eq_true rfl) rfl dL_isStep_82 (List.Perm.refl _) (kc' := 0) (ks' := 0) rfl rfl (rwI (ws' := (bl [obW G a1 h1 q1 jj, obW G a2 h2 q2 j2, slB G q1, slB G q2])) (List.Perm.refl _) ?_)
      refine V.nmN (fun m_ em_ => ?_)
      have hm_ : m_ < 15 := by rw [em_]; exact upv_lt _ (by decide)
      rcases (show m_ = 0 ∨ m_ = 1 ∨ m_ = 2 ∨ m_ = 3 ∨ m_ = 4 ∨ m_ = 5 ∨ m_ = 6 ∨ m_ = 7 ∨ m_ = 8 ∨ m_ = 9 ∨ m_ = 10 ∨ m_ = 11 ∨ m_ = 12 ∨ m_ = 13 ∨ m_ = 14 by omega) with rfl | rfl | rfl | rfl | rfl | rfl | rfl | rfl | rfl | rfl | rfl | rfl | rfl | rfl | rfl
      · refine V.tableIn (off := 67) (tgt := 152) E dL_isStep_85 (by decide) (by decide) (by decide) (by decide) ?_
        exact st_152 E hend _ _ h _ _ _ hp _ hc
      · refine V.tableIn (off := 67) (tgt := 152) E dL_isStep_85 (by decide) (by decide) (by decide) (by decide) ?_
        exact st_152 E hend _ _ h _ _ _ hp _ hc
      · refine V.tableIn (off := 250) (tgt := 335) E dL_isStep_85 (by decide) (by decide) (by decide) (by decide) ?_
        exact st_335 E hend _ _ h _ _ _ hp _ hc
      · refine V.tableIn (off := 306) (tgt := 391) E dL_isStep_85 (by decide) (by decide) (by decide) (by decide) ?_
        cases fr
        · exact st_391_f E hend _ _ h _ _ _ hp hc
        · exact st_391_t E hend _ _ h _ _ _ hp hc
      · refine V.tableIn (off := 306) (tgt := 391) E dL_isStep_85 (by decide) (by decide) (by decide) (by decide) ?_
        cases fr
        · exact st_391_f E hend _ _ h _ _ _ hp hc
        · exact st_391_t E hend _ _ h _ _ _ hp hc
      · refine V.tableIn (off := 306) (tgt := 391) E dL_isStep_85 (by decide) (by decide) (by decide) (by decide) ?_
        cases fr
        · exact st_391_f E hend _ _ h _ _ _ hp hc
        · exact st_391_t E hend _ _ h _ _ _ hp hc
      · refine V.tableIn (off := 496) (tgt := 581) E dL_isStep_85 (by decide) (by decide) (by decide) (by decide) ?_
        exact st_581 E hend _ _ h _ _ _ hp _ hc
      · refine V.tableIn (off := 496) (tgt := 581) E dL_isStep_85 (by decide) (by decide) (by decide) (by decide) ?_
        exact st_581 E hend _ _ h _ _ _ hp _ hc
      · refine V.tableIn (off := 606) (tgt := 691) E dL_isStep_85 (by decide) (by decide) (by decide) (by decide) ?_
        exact st_691 E hend _ _ h _ _ _ hp _ hc
      · refine V.tableIn (off := 706) (tgt := 791) E dL_isStep_85 (by decide) (by decide) (by decide) (by decide) ?_
        exact st_791 E hend _ _ h _ _ _ hp _ hc
      · refine V.tableIn (off := 706) (tgt := 791) E dL_isStep_85 (by decide) (by decide) (by decide) (by decide) ?_
        exact st_791 E hend _ _ h _ _ _ hp _ hc
      · refine V.tableIn (off := 726) (tgt := 811) E dL_isStep_85 (by decide) (by decide) (by decide) (by decide) ?_
        exact st_811 E hend _ _ h _ _ _ hp _ hc
      · refine V.tableIn (off := 752) (tgt := 837) E dL_isStep_85 (by decide) (by decide) (by decide) (by decide) ?_
        exact st_837 E hend _ _ h _ _ _ hp _ hc
      · refine V.tableOut (tgt := 905) E dL_isStep_85 (by decide) (by decide) ?_
        cases fr
        · exact st_905_f E hend _ _ h _ _ _ hp hc
        · exact st_905_t E hend _ _ h _ _ _ hp hc
      · refine V.tableOut (tgt := 905) E dL_isStep_85 (by decide) (by decide) ?_
        cases fr
        · exact st_905_f E hend _ _ h _ _ _ hp hc
        · exact st_905_t E hend _ _ h _ _ _ hp hc
    refine V.if_neN (tgt := 68) E (Nat.lt_trans (upv_lt _ (by decide)) (by decide)) dL_isStep_38 (by decide) (fun q_38 => ?_) (fun q_38 => ?_)
    · refine V.iload_n E dL_isStep_68 rfl rfl ?_
      refine V.iconst (v := nI (2)) E dL_isStep_69 (by decide) ?_
      refine V.ishr E dL_isStep_70 ?_
      refine V.sipush (v := nI (4096)) E dL_isStep_71 (by decide) ?_
      refine V.callS E (c_L_up G ((y_) >>> ((nI (2)) &&& 31)) 4096 (by decide) (by decide)) (bl [obW G a1 h1 q1 j1, obW G a2 h2 q2 j2, slB G q1, slB G q2]) [] gL_isStep_L_up rfl hd_L_up ⟨⟨Nat.le_of_ble_eq_true rfl, Nat.le_of_ble_eq_true rfl⟩, Nat.le_of_ble_eq_true rfl, Nat.le_of_ble_eq_true rfl⟩ rfl (Nat.le_of_ble_eq_true rfl) rfl dL_isStep_74 (List.Perm.refl _) (kc' := 0) (ks' := 0) rfl rfl (rwI (ws' := (bl [obW G a1 h1 q1 j1, obW G a2 h2 q2 j2, slB G q1, slB G q2])) (List.Perm.refl _) ?_)
      exact hJ_77 _ _ (upv_lt _ (by decide))
    · refine V.aload_n E dL_isStep_41 rfl rfl ?_
      refine V.bipush (v := nI (6)) E dL_isStep_42 (by decide) ?_
      refine V.callV (C := RX4) E (o_count G a1 h1 q1 j1 6 (h.q) (by decide)) (bl [obW G a2 h2 q2 j2, slB G q2]) [] 0 4 rfl rfl rfl gL_isStep_X4_count rfl ⟨rfl, hd_X4_count⟩ ⟨⟨Nat.le_of_ble_eq_true rfl, Nat.le_of_ble_eq_true rfl⟩, Nat.le_of_ble_eq_true rfl, Nat.le_of_ble_eq_true rfl⟩ rfl (Nat.le_of_ble_eq_true rfl) rfl dL_isStep_44 (pBs (n := 4) [obW G a1 h1 q1 j1, obW G a2 h2 q2 j2, slB G q1, slB G q2] [0, 2] [1, 3] rfl (by decide)) (kc' := 0) (ks' := 0) rfl rfl (rxI (ws' := fun (g_44 : OJ) => (bl [obW G a1 h1 q1 g_44, obW G a2 h2 q2 j2, slB G q1, slB G q2])) (fun g_44 => (pBs (n := 4) [obW G a1 h1 q1 g_44, obW G a2 h2 q2 j2, slB G q1, slB G q2] [0, 2] [1, 3] rfl (by decide)).symm) (fun g_44 hf_44 => ?_))
      refine V.iload_n E dL_isStep_47 rfl rfl ?_
      refine V.iconst (v := nI (3)) E dL_isStep_48 (by decide) ?_
      refine V.ishr E dL_isStep_49 ?_
      refine V.iconst (v := nI (2)) E dL_isStep_50 (by decide) ?_
      refine V.callS E (c_L_up G ((y_) >>> ((nI (3)) &&& 31)) 2 (by decide) (by decide)) (bl [obW G a1 h1 q1 g_44, obW G a2 h2 q2 j2, slB G q1, slB G q2]) [.int (nI (cnN (oX q1) (oL q1) (oN q1) 6))] gL_isStep_L_up rfl hd_L_up ⟨⟨Nat.le_of_ble_eq_true rfl, Nat.le_of_ble_eq_true rfl⟩, Nat.le_of_ble_eq_true rfl, Nat.le_of_ble_eq_true rfl⟩ rfl (Nat.le_of_ble_eq_true rfl) rfl dL_isStep_51 (List.Perm.refl _) (kc' := 0) (ks' := 0) rfl rfl (rwI (ws' := (bl [obW G a1 h1 q1 g_44, obW G a2 h2 q2 j2, slB G q1, slB G q2])) (List.Perm.refl _) ?_)
      refine V.nmN (fun u1 eu1 => ?_)
      have hu1 : u1 < 2 := by rw [eu1]; exact upv_lt _ (by decide)
      refine V.iconst (v := nI (4)) E dL_isStep_54 (by decide) ?_
      refine V.iload_n E dL_isStep_55 rfl rfl ?_
      refine V.iconst (v := nI (5)) E dL_isStep_56 (by decide) ?_
      refine V.ishr E dL_isStep_57 ?_
      refine V.iconst (v := nI (3)) E dL_isStep_58 (by decide) ?_
      refine V.callS E (c_L_up G ((y_) >>> ((nI (5)) &&& 31)) 3 (by decide) (by decide)) (bl [obW G a1 h1 q1 g_44, obW G a2 h2 q2 j2, slB G q1, slB G q2]) [.int (nI (4)), .int (nI (u1)), .int (nI (cnN (oX q1) (oL q1) (oN q1) 6))] gL_isStep_L_up rfl hd_L_up ⟨⟨Nat.le_of_ble_eq_true rfl, Nat.le_of_ble_eq_true rfl⟩, Nat.le_of_ble_eq_true rfl, Nat.le_of_ble_eq_true rfl⟩ rfl (Nat.le_of_ble_eq_true rfl) rfl dL_isStep_59 (List.Perm.refl _) (kc' := 0) (ks' := 0) rfl rfl (rwI (ws' := (bl [obW G a1 h1 q1 g_44, obW G a2 h2 q2 j2, slB G q1, slB G q2])) (List.Perm.refl _) ?_)
      refine V.nmN (fun u2 eu2 => ?_)
      have hu2 : u2 < 3 := by rw [eu2]; exact upv_lt _ (by decide)
      refine V.imulN E  dL_isStep_62 ?_
      refine V.ishlN E (Nat.lt_trans (shl_b u1 hu1 u2 hu2) (by decide)) (by omega) dL_isStep_63 ?_
      refine V.ixor E dL_isStep_64 ?_
      refine V.top (y := nI (cnN (oX q1) (oL q1) (oN q1) 6 ^^^ u1 * 2 ^ (4 * u2))) ((xor_n (cnN_b h.q.x h.q.t.1 h.q.n _) (shl_b u1 hu1 u2 hu2)).1) ?_
      refine V.goto (tgt := 77) E dL_isStep_65 (by decide) ?_
      exact hJ_77 _ _ ((xor_n (cnN_b h.q.x h.q.t.1 h.q.n _) (shl_b u1 hu1 u2 hu2)).2)
  refine V.if_leN (tgt := 30) E (Nat.lt_trans (upv_lt _ (by decide)) (by decide)) dL_isStep_23 (by decide) (fun q_23 => ?_) (fun q_23 => ?_)
  · refine V.iconst (v := nI (0)) E dL_isStep_30 (by decide) ?_
    exact hJ_31 false
  · refine V.iconst (v := nI (1)) E dL_isStep_26 (by decide) ?_
    refine V.goto (tgt := 31) E dL_isStep_27 (by decide) ?_
    exact hJ_31 true
