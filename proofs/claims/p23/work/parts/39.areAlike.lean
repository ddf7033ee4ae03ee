/-! areAlike -/
abbrev rm_o_areAlike : Room := { frames := 7, cells := 0, slots := 0, locals := 157 }
theorem hd_L_areAlike : yL_areAlike.cls ≠ "java/lang/invoke/MethodHandle" ∧ yL_areAlike.cls ≠ "java/lang/invoke/VarHandle" ∧ (parseMethodDescriptor yL_areAlike.desc).map (fun d => d.parameters.length) = some 3 := by decide +kernel
set_option maxRecDepth 100000 in
set_option maxHeartbeats 8000000 in
theorem o_areAlike (G : VC) (a1 : AD) (h1 : AD) (a2 : AD) (h2 : AD) (q1 : OQ) (j1 : OJ) (q2 : OQ) (j2 : OJ) (x_ : Int32) (h : Rel q1 q2) : Ctr yL_areAlike wsL_areAlike rm_o_areAlike G [.ref (a1 0 0), .ref (a2 0 0), .int (x_)] (bl [obW G a1 h1 q1 j1, obW G a2 h2 q2 j2, slB G q1, slB G q2]) (fun v9_ u9_ => ∃ zz : OJ × OJ, u9_ = (bl [obW G a1 h1 q1 zz.1, obW G a2 h2 q2 zz.2, slB G q1, slB G q2]) ∧ v9_ = some (.int (nI (1))) ∧ (True)) := by
  refine Ctr.int (cc := cL_areAlike) (maxL := 6) (ret := (some .boolean)) (lv0 := [some (.ref (a1 0 0)), some (.ref (a2 0 0)), some (.int (x_)), none, none, none]) (by decide) rfl rfl rfl (Nat.le_of_ble_eq_true rfl) rfl (fun A X E hend => ?_)
  refine V.aload_n E dL_areAlike_0 rfl rfl ?_
  refine V.iconst (v := nI (1)) E dL_areAlike_1 (by decide) ?_
  refine V.callV (C := RX4) E (o_bestScreen G a1 h1 q1 j1 (h.q)) (bl [obW G a2 h2 q2 j2, slB G q2]) [] 0 4 rfl rfl rfl gL_areAlike_X4_bestScreen rfl ⟨rfl, hd_X4_bestScreen⟩ ⟨⟨Nat.le_of_ble_eq_true rfl, Nat.le_of_ble_eq_true rfl⟩, Nat.le_of_ble_eq_true rfl, Nat.le_of_ble_eq_true rfl⟩ rfl (Nat.le_of_ble_eq_true rfl) rfl dL_areAlike_2 (pBs (n := 4) [obW G a1 h1 q1 j1, obW G a2 h2 q2 j2, slB G q1, slB G q2] [0, 2] [1, 3] rfl (by decide)) (kc' := 0) (ks' := 0) rfl rfl (rxI (ws' := fun (g_2 : OJ) => (bl [obW G a1 h1 q1 g_2, obW G a2 h2 q2 j2, slB G q1, slB G q2])) (fun g_2 => (pBs (n := 4) [obW G a1 h1 q1 g_2, obW G a2 h2 q2 j2, slB G q1, slB G q2] [0, 2] [1, 3] rfl (by decide)).symm) (fun g_2 hf_2 => ?_))
  refine V.aload_n E dL_areAlike_5 rfl rfl ?_
  refine V.iconst (v := nI (1)) E dL_areAlike_6 (by decide) ?_
  refine V.callV (C := RX4) E (o_bestScreen G a2 h2 q2 j2 (h.r)) (bl [obW G a1 h1 q1 g_2, slB G q1]) [.int ((bst (oX q1) 48).2)] 66 4 rfl rfl rfl gL_areAlike_X4_bestScreen rfl ⟨rfl, hd_X4_bestScreen⟩ ⟨⟨Nat.le_of_ble_eq_true rfl, Nat.le_of_ble_eq_true rfl⟩, Nat.le_of_ble_eq_true rfl, Nat.le_of_ble_eq_true rfl⟩ rfl (Nat.le_of_ble_eq_true rfl) rfl dL_areAlike_7 (pBs (n := 4) [obW G a1 h1 q1 g_2, obW G a2 h2 q2 j2, slB G q1, slB G q2] [1, 3] [0, 2] rfl (by decide)) (kc' := 0) (ks' := 0) rfl rfl (rxI (ws' := fun (g_7 : OJ) => (bl [obW G a1 h1 q1 g_2, obW G a2 h2 q2 g_7, slB G q1, slB G q2])) (fun g_7 => (pBs (n := 4) [obW G a1 h1 q1 g_2, obW G a2 h2 q2 g_7, slB G q1, slB G q2] [1, 3] [0, 2] rfl (by decide)).symm) (fun g_7 hf_7 => ?_))
  refine V.icmp_ne (tgt := 17) E dL_areAlike_10 (by decide) (fun q_10 => ?_) (fun q_10 => ?_)
  · exact absurd h.bsc.symm q_10
  · refine V.iconst (v := nI (1)) E dL_areAlike_13 (by decide) ?_
    refine V.goto (tgt := 18) E dL_areAlike_14 (by decide) ?_
    refine V.istore_n (lv' := [some (.ref (a1 0 0)), some (.ref (a2 0 0)), some (.int (x_)), some (.int (nI (1))), none, none]) E dL_areAlike_18 rfl (Nat.le_of_ble_eq_true rfl) rfl rfl ?_
    refine V.iconst (v := nI (0)) E dL_areAlike_19 (by decide) ?_
    refine V.istore (lv' := [some (.ref (a1 0 0)), some (.ref (a2 0 0)), some (.int (x_)), some (.int (nI (1))), some (.int (nI (0))), none]) E dL_areAlike_20 (Nat.le_of_ble_eq_true rfl) rfl rfl ?_
    show V G A X rm_o_areAlike (bl [obW G a1 h1 q1 (((g_2, g_7)).1), obW G a2 h2 q2 (((g_2, g_7)).2), slB G q1, slB G q2]) 0 0 22 [some (.ref (a1 0 0)), some (.ref (a2 0 0)), some (.int (x_)), some (.int (nI (1))), some (.int (nI (0))), none] []
    refine loopN (P := fun i22 => ∀ g22 : OJ × OJ, (True) → V G A X rm_o_areAlike (bl [obW G a1 h1 q1 g22.1, obW G a2 h2 q2 g22.2, slB G q1, slB G q2]) 0 0 22 [some (.ref (a1 0 0)), some (.ref (a2 0 0)), some (.int (x_)), some (.int (nI (1))), some (.int (nI (i22))), none] []) 19 (fun i22 hi_22 ih_22 g22 hg_22 => ?_) 0 (Nat.zero_le _) ((g_2, g_7)) (trivial)
    refine V.iload E dL_areAlike_22 rfl ?_
    refine V.bipush (v := nI (19)) E dL_areAlike_24 (by decide) ?_
    refine V.icmp_geN (tgt := 60) E (by omega) (by omega) dL_areAlike_26 (by decide) (fun q_26 => ?_) (fun q_26 => ?_)
    · obtain rfl : i22 = 19 := by omega
      refine V.iconst (v := nI (0)) E dL_areAlike_60 (by decide) ?_
      refine V.istore (lv' := [some (.ref (a1 0 0)), some (.ref (a2 0 0)), some (.int (x_)), some (.int (nI (1))), some (.int (nI (0))), none]) E dL_areAlike_61 (Nat.le_of_ble_eq_true rfl) rfl rfl ?_
      show V G A X rm_o_areAlike (bl [obW G a1 h1 q1 (((g22.1, g22.2)).1), obW G a2 h2 q2 (((g22.1, g22.2)).2), slB G q1, slB G q2]) 0 0 63 [some (.ref (a1 0 0)), some (.ref (a2 0 0)), some (.int (x_)), some (.int (nI (1))), some (.int (nI (0))), none] []
      refine loopN (P := fun i63 => ∀ g63 : OJ × OJ, (True) → V G A X rm_o_areAlike (bl [obW G a1 h1 q1 g63.1, obW G a2 h2 q2 g63.2, slB G q1, slB G q2]) 0 0 63 [some (.ref (a1 0 0)), some (.ref (a2 0 0)), some (.int (x_)), some (.int (nI (1))), some (.int (nI (i63))), none] []) 480 (fun i63 hi_63 ih_63 g63 hg_63 => ?_) 0 (Nat.zero_le _) ((g22.1, g22.2)) (trivial)
      refine V.iload E dL_areAlike_63 rfl ?_
      refine V.sipush (v := nI (480)) E dL_areAlike_65 (by decide) ?_
      refine V.icmp_geN (tgt := 121) E (by omega) (by omega) dL_areAlike_68 (by decide) (fun q_68 => ?_) (fun q_68 => ?_)
      · obtain rfl : i63 = 480 := by omega
        refine V.iconst (v := nI (2)) E dL_areAlike_121 (by decide) ?_
        refine V.istore (lv' := [some (.ref (a1 0 0)), some (.ref (a2 0 0)), some (.int (x_)), some (.int (nI (1))), some (.int (nI (2))), none]) E dL_areAlike_122 (Nat.le_of_ble_eq_true rfl) rfl rfl ?_
        show V G A X rm_o_areAlike (bl [obW G a1 h1 q1 (((g63.1, g63.2)).1), obW G a2 h2 q2 (((g63.1, g63.2)).2), slB G q1, slB G q2]) 0 0 124 [some (.ref (a1 0 0)), some (.ref (a2 0 0)), some (.int (x_)), some (.int (nI (1))), some (.int (nI (2))), none] []
        refine loopN (P := fun i124 => ∀ g124 : OJ × OJ, (2 ≤ i124) → V G A X rm_o_areAlike (bl [obW G a1 h1 q1 g124.1, obW G a2 h2 q2 g124.2, slB G q1, slB G q2]) 0 0 124 [some (.ref (a1 0 0)), some (.ref (a2 0 0)), some (.int (x_)), some (.int (nI (1))), some (.int (nI (i124))), none] []) 5 (fun i124 hi_124 ih_124 g124 hg_124 => ?_) 2 (by omega) ((g63.1, g63.2)) (Nat.le_refl _)
        refine V.iload E dL_areAlike_124 rfl ?_
        refine V.iconst (v := nI (5)) E dL_areAlike_126 (by decide) ?_
        refine V.icmp_geN (tgt := 180) E (by omega) (by omega) dL_areAlike_127 (by decide) (fun q_127 => ?_) (fun q_127 => ?_)
        · obtain rfl : i124 = 5 := by omega
          refine V.iload_n E dL_areAlike_180 rfl rfl ?_
          refine V.bipush (v := nI (6)) E dL_areAlike_181 (by decide) ?_
          refine V.callS E (c_L_up G x_ 6 (by decide) (by decide)) (bl [obW G a1 h1 q1 g124.1, obW G a2 h2 q2 g124.2, slB G q1, slB G q2]) [] gL_areAlike_L_up rfl hd_L_up ⟨⟨Nat.le_of_ble_eq_true rfl, Nat.le_of_ble_eq_true rfl⟩, Nat.le_of_ble_eq_true rfl, Nat.le_of_ble_eq_true rfl⟩ rfl (Nat.le_of_ble_eq_true rfl) rfl dL_areAlike_183 (List.Perm.refl _) (kc' := 0) (ks' := 0) rfl rfl (rwI (ws' := (bl [obW G a1 h1 q1 g124.1, obW G a2 h2 q2 g124.2, slB G q1, slB G q2])) (List.Perm.refl _) ?_)
          refine V.nmN (fun k_ ek_ => ?_)
          have hk_ : k_ < 6 := by rw [ek_]; exact upv_lt _ (by decide)
          refine V.istore (lv' := [some (.ref (a1 0 0)), some (.ref (a2 0 0)), some (.int (x_)), some (.int (nI (1))), some (.int (nI (k_))), none]) E dL_areAlike_186 (Nat.le_of_ble_eq_true rfl) rfl rfl ?_
          have hJ_229 : ∀ (v_ : Nat) (hv_ : v_ ≤ hv k_), V G A X rm_o_areAlike (bl [obW G a1 h1 q1 g124.1, obW G a2 h2 q2 g124.2, slB G q1, slB G q2]) 0 0 229 [some (.ref (a1 0 0)), some (.ref (a2 0 0)), some (.int (x_)), some (.int (nI (1))), some (.int (nI (k_))), none] [.int (nI (v_))] := by
            intro v_ hv_
            refine V.istore (lv' := [some (.ref (a1 0 0)), some (.ref (a2 0 0)), some (.int (x_)), some (.int (nI (1))), some (.int (nI (k_))), some (.int (nI (v_)))]) E dL_areAlike_229 (Nat.le_of_ble_eq_true rfl) rfl rfl ?_
            refine V.iload_n E dL_areAlike_231 rfl rfl ?_
            refine V.if_eqN (tgt := 305) E (by omega) dL_areAlike_232 (by decide) (fun q_232 => absurd q_232 (by decide)) (fun q_232 => ?_)
            refine V.aload_n E dL_areAlike_235 rfl rfl ?_
            refine V.iload E dL_areAlike_236 rfl ?_
            refine V.iload E dL_areAlike_238 rfl ?_
            refine V.callV (C := RX4) E (o_ifSet G a1 h1 q1 g124.1 k_ v_ (h.q) (hk_) (hv_)) (bl [obW G a2 h2 q2 g124.2, slB G q2]) [] 0 4 rfl rfl rfl gL_areAlike_X4_ifSet rfl ⟨rfl, hd_X4_ifSet⟩ ⟨⟨Nat.le_of_ble_eq_true rfl, Nat.le_of_ble_eq_true rfl⟩, Nat.le_of_ble_eq_true rfl, Nat.le_of_ble_eq_true rfl⟩ rfl (Nat.le_of_ble_eq_true rfl) rfl dL_areAlike_240 (pBs (n := 4) [obW G a1 h1 q1 g124.1, obW G a2 h2 q2 g124.2, slB G q1, slB G q2] [0, 2] [1, 3] rfl (by decide)) (kc' := 0) (ks' := 0) rfl rfl (rxI (ws' := fun (g_240 : OJ) => (bl [obW G a1 h1 q1 g_240, obW G a2 h2 q2 g124.2, slB G q1, slB G q2])) (fun g_240 => (pBs (n := 4) [obW G a1 h1 q1 g_240, obW G a2 h2 q2 g124.2, slB G q1, slB G q2] [0, 2] [1, 3] rfl (by decide)).symm) (fun g_240 hf_240 => ?_))
            refine V.aload_n E dL_areAlike_243 rfl rfl ?_
            refine V.iload E dL_areAlike_244 rfl ?_
            refine V.iload E dL_areAlike_246 rfl ?_
            refine V.callV (C := RX4) E (o_ifSet G a2 h2 q2 g124.2 k_ v_ (h.r) (hk_) (hv_)) (bl [obW G a1 h1 q1 g_240, slB G q1]) [.int (aIf (oX q1) k_ v_)] 66 4 rfl rfl rfl gL_areAlike_X4_ifSet rfl ⟨rfl, hd_X4_ifSet⟩ ⟨⟨Nat.le_of_ble_eq_true rfl, Nat.le_of_ble_eq_true rfl⟩, Nat.le_of_ble_eq_true rfl, Nat.le_of_ble_eq_true rfl⟩ rfl (Nat.le_of_ble_eq_true rfl) rfl dL_areAlike_248 (pBs (n := 4) [obW G a1 h1 q1 g_240, obW G a2 h2 q2 g124.2, slB G q1, slB G q2] [1, 3] [0, 2] rfl (by decide)) (kc' := 0) (ks' := 0) rfl rfl (rxI (ws' := fun (g_248 : OJ) => (bl [obW G a1 h1 q1 g_240, obW G a2 h2 q2 g_248, slB G q1, slB G q2])) (fun g_248 => (pBs (n := 4) [obW G a1 h1 q1 g_240, obW G a2 h2 q2 g_248, slB G q1, slB G q2] [1, 3] [0, 2] rfl (by decide)).symm) (fun g_248 hf_248 => ?_))
            refine V.icmp_ne (tgt := 305) E dL_areAlike_251 (by decide) (fun q_251 => ?_) (fun q_251 => ?_)
            · exact absurd (h.aif _ _).symm q_251
            · refine V.aload_n E dL_areAlike_254 rfl rfl ?_
              refine V.iload E dL_areAlike_255 rfl ?_
              refine V.aload_n E dL_areAlike_257 rfl rfl ?_
              refine V.iload E dL_areAlike_258 rfl ?_
              refine V.callV (C := RX4) E (o_count G a1 h1 q1 g_240 k_ (h.q) (by omega)) (bl [obW G a2 h2 q2 g_248, slB G q2]) [.int (nI (k_)), .ref (a1 0 0)] 0 4 rfl rfl rfl gL_areAlike_X4_count rfl ⟨rfl, hd_X4_count⟩ ⟨⟨Nat.le_of_ble_eq_true rfl, Nat.le_of_ble_eq_true rfl⟩, Nat.le_of_ble_eq_true rfl, Nat.le_of_ble_eq_true rfl⟩ rfl (Nat.le_of_ble_eq_true rfl) rfl dL_areAlike_260 (pBs (n := 4) [obW G a1 h1 q1 g_240, obW G a2 h2 q2 g_248, slB G q1, slB G q2] [0, 2] [1, 3] rfl (by decide)) (kc' := 0) (ks' := 0) rfl rfl (rxI (ws' := fun (g_260 : OJ) => (bl [obW G a1 h1 q1 g_260, obW G a2 h2 q2 g_248, slB G q1, slB G q2])) (fun g_260 => (pBs (n := 4) [obW G a1 h1 q1 g_260, obW G a2 h2 q2 g_248, slB G q1, slB G q2] [0, 2] [1, 3] rfl (by decide)).symm) (fun g_260 hf_260 => ?_))
              refine V.topN (b := scS (oX q1) k_) (if_pos hk_) ?_
              refine V.callV (C := RX4) E (o_ifSet G a1 h1 q1 g_260 k_ (scS (oX q1) k_) (h.q) (hk_) (h.q.x.1 k_ hk_)) (bl [obW G a2 h2 q2 g_248, slB G q2]) [] 0 4 rfl rfl rfl gL_areAlike_X4_ifSet rfl ⟨rfl, hd_X4_ifSet⟩ ⟨⟨Nat.le_of_ble_eq_true rfl, Nat.le_of_ble_eq_true rfl⟩, Nat.le_of_ble_eq_true rfl, Nat.le_of_ble_eq_true rfl⟩ rfl (Nat.le_of_ble_eq_true rfl) rfl dL_areAlike_263 (pBs (n := 4) [obW G a1 h1 q1 g_260, obW G a2 h2 q2 g_248, slB G q1, slB G q2] [0, 2] [1, 3] rfl (by decide)) (kc' := 0) (ks' := 0) rfl rfl (rxI (ws' := fun (g_263 : OJ) => (bl [obW G a1 h1 q1 g_263, obW G a2 h2 q2 g_248, slB G q1, slB G q2])) (fun g_263 => (pBs (n := 4) [obW G a1 h1 q1 g_263, obW G a2 h2 q2 g_248, slB G q1, slB G q2] [0, 2] [1, 3] rfl (by decide)).symm) (fun g_263 hf_263 => ?_))
              refine V.top (y := nI (0)) (aIf_same h.q.x hk_) ?_
              refine V.if_neN (tgt := 305) E (by omega) dL_areAlike_266 (by decide) (fun q_266 => absurd q_266 (by decide)) (fun q_266 => ?_)
              refine V.aload_n E dL_areAlike_269 rfl rfl ?_
              refine V.iload_n E dL_areAlike_270 rfl rfl ?_
              refine V.bipush (v := nI (9)) E dL_areAlike_271 (by decide) ?_
              refine V.ishr E dL_areAlike_273 ?_
              refine V.bipush (v := nI (48)) E dL_areAlike_274 (by decide) ?_
              refine V.callS E (c_L_up G ((x_) >>> ((nI (9)) &&& 31)) 48 (by decide) (by decide)) (bl [obW G a1 h1 q1 g_263, obW G a2 h2 q2 g_248, slB G q1, slB G q2]) [.ref (a1 0 0)] gL_areAlike_L_up rfl hd_L_up ⟨⟨Nat.le_of_ble_eq_true rfl, Nat.le_of_ble_eq_true rfl⟩, Nat.le_of_ble_eq_true rfl, Nat.le_of_ble_eq_true rfl⟩ rfl (Nat.le_of_ble_eq_true rfl) rfl dL_areAlike_276 (List.Perm.refl _) (kc' := 0) (ks' := 0) rfl rfl (rwI (ws' := (bl [obW G a1 h1 q1 g_263, obW G a2 h2 q2 g_248, slB G q1, slB G q2])) (List.Perm.refl _) ?_)
              refine V.nmN (fun p_ ep_ => ?_)
              have hp_ : p_ < 48 := by rw [ep_]; exact upv_lt _ (by decide)
              refine V.callV (C := RX4) E (o_leastNear G a1 h1 q1 g_263 p_ (h.q) (hp_)) (bl [obW G a2 h2 q2 g_248, slB G q2]) [] 0 4 rfl rfl rfl gL_areAlike_X4_leastNear rfl ⟨rfl, hd_X4_leastNear⟩ ⟨⟨Nat.le_of_ble_eq_true rfl, Nat.le_of_ble_eq_true rfl⟩, Nat.le_of_ble_eq_true rfl, Nat.le_of_ble_eq_true rfl⟩ rfl (Nat.le_of_ble_eq_true rfl) rfl dL_areAlike_279 (pBs (n := 4) [obW G a1 h1 q1 g_263, obW G a2 h2 q2 g_248, slB G q1, slB G q2] [0, 2] [1, 3] rfl (by decide)) (kc' := 0) (ks' := 0) rfl rfl (rxI (ws' := fun (g_279 : OJ) => (bl [obW G a1 h1 q1 g_279, obW G a2 h2 q2 g_248, slB G q1, slB G q2])) (fun g_279 => (pBs (n := 4) [obW G a1 h1 q1 g_279, obW G a2 h2 q2 g_248, slB G q1, slB G q2] [0, 2] [1, 3] rfl (by decide)).symm) (fun g_279 hf_279 => ?_))
              refine V.aload_n E dL_areAlike_282 rfl rfl ?_
              refine V.iload_n E dL_areAlike_283 rfl rfl ?_
              refine V.bipush (v := nI (9)) E dL_areAlike_284 (by decide) ?_
              refine V.ishr E dL_areAlike_286 ?_
              refine V.bipush (v := nI (48)) E dL_areAlike_287 (by decide) ?_
              refine V.callS E (c_L_up G ((x_) >>> ((nI (9)) &&& 31)) 48 (by decide) (by decide)) (bl [obW G a1 h1 q1 g_279, obW G a2 h2 q2 g_248, slB G q1, slB G q2]) [.ref (a2 0 0), .int (if dist (scF (oX q1) p_) (scC (oX q1)) < scS (oX q1) 1 then nI (dist (scF (oX q1) p_) (scC (oX q1))) else (-6 : Int32))] gL_areAlike_L_up rfl hd_L_up ⟨⟨Nat.le_of_ble_eq_true rfl, Nat.le_of_ble_eq_true rfl⟩, Nat.le_of_ble_eq_true rfl, Nat.le_of_ble_eq_true rfl⟩ rfl (Nat.le_of_ble_eq_true rfl) rfl dL_areAlike_289 (List.Perm.refl _) (kc' := 0) (ks' := 0) rfl rfl (rwI (ws' := (bl [obW G a1 h1 q1 g_279, obW G a2 h2 q2 g_248, slB G q1, slB G q2])) (List.Perm.refl _) ?_)
              refine V.topN (b := p_) (ep_.symm) ?_
              refine V.callS E (c_L_there G p_ (hp_)) (bl [obW G a1 h1 q1 g_279, obW G a2 h2 q2 g_248, slB G q1, slB G q2]) [.ref (a2 0 0), .int (if dist (scF (oX q1) p_) (scC (oX q1)) < scS (oX q1) 1 then nI (dist (scF (oX q1) p_) (scC (oX q1))) else (-6 : Int32))] gL_areAlike_L_there rfl hd_L_there ⟨⟨Nat.le_of_ble_eq_true rfl, Nat.le_of_ble_eq_true rfl⟩, Nat.le_of_ble_eq_true rfl, Nat.le_of_ble_eq_true rfl⟩ rfl (Nat.le_of_ble_eq_true rfl) rfl dL_areAlike_292 (List.Perm.refl _) (kc' := 0) (ks' := 0) rfl rfl (rwI (ws' := (bl [obW G a1 h1 q1 g_279, obW G a2 h2 q2 g_248, slB G q1, slB G q2])) (List.Perm.refl _) ?_)
              refine V.callV (C := RX4) E (o_leastNear G a2 h2 q2 g_248 (mP p_) (h.r) (mP_lt hp_)) (bl [obW G a1 h1 q1 g_279, slB G q1]) [.int (if dist (scF (oX q1) p_) (scC (oX q1)) < scS (oX q1) 1 then nI (dist (scF (oX q1) p_) (scC (oX q1))) else (-6 : Int32))] 66 4 rfl rfl rfl gL_areAlike_X4_leastNear rfl ⟨rfl, hd_X4_leastNear⟩ ⟨⟨Nat.le_of_ble_eq_true rfl, Nat.le_of_ble_eq_true rfl⟩, Nat.le_of_ble_eq_true rfl, Nat.le_of_ble_eq_true rfl⟩ rfl (Nat.le_of_ble_eq_true rfl) rfl dL_areAlike_295 (pBs (n := 4) [obW G a1 h1 q1 g_279, obW G a2 h2 q2 g_248, slB G q1, slB G q2] [1, 3] [0, 2] rfl (by decide)) (kc' := 0) (ks' := 0) rfl rfl (rxI (ws' := fun (g_295 : OJ) => (bl [obW G a1 h1 q1 g_279, obW G a2 h2 q2 g_295, slB G q1, slB G q2])) (fun g_295 => (pBs (n := 4) [obW G a1 h1 q1 g_279, obW G a2 h2 q2 g_295, slB G q1, slB G q2] [1, 3] [0, 2] rfl (by decide)).symm) (fun g_295 hf_295 => ?_))
              refine V.icmp_ne (tgt := 305) E dL_areAlike_298 (by decide) (fun q_298 => ?_) (fun q_298 => ?_)
              · exact absurd (h.near p_).symm q_298
              · refine V.iconst (v := nI (1)) E dL_areAlike_301 (by decide) ?_
                refine V.goto (tgt := 306) E dL_areAlike_302 (by decide) ?_
                exact hend _ _ _ _ dL_areAlike_306 (nrB true) ⟨(g_279, g_295), rfl, rfl, trivial⟩
          refine V.iload E dL_areAlike_188 rfl ?_
          refine V.iconst (v := nI (2)) E dL_areAlike_190 (by decide) ?_
          refine V.icmp_geN (tgt := 205) E (by omega) (by omega) dL_areAlike_191 (by decide) (fun q_191 => ?_) (fun q_191 => ?_)
          · refine V.iload E dL_areAlike_205 rfl ?_
            refine V.iconst (v := nI (5)) E dL_areAlike_207 (by decide) ?_
            refine V.icmp_geN (tgt := 222) E (by omega) (by omega) dL_areAlike_208 (by decide) (fun q_208 => ?_) (fun q_208 => ?_)
            · refine V.iload_n E dL_areAlike_222 rfl rfl ?_
              refine V.iconst (v := nI (3)) E dL_areAlike_223 (by decide) ?_
              refine V.ishr E dL_areAlike_224 ?_
              refine V.iconst (v := nI (2)) E dL_areAlike_225 (by decide) ?_
              refine V.callS E (c_L_up G ((x_) >>> ((nI (3)) &&& 31)) 2 (by decide) (by decide)) (bl [obW G a1 h1 q1 g124.1, obW G a2 h2 q2 g124.2, slB G q1, slB G q2]) [] gL_areAlike_L_up rfl hd_L_up ⟨⟨Nat.le_of_ble_eq_true rfl, Nat.le_of_ble_eq_true rfl⟩, Nat.le_of_ble_eq_true rfl, Nat.le_of_ble_eq_true rfl⟩ rfl (Nat.le_of_ble_eq_true rfl) rfl dL_areAlike_226 (List.Perm.refl _) (kc' := 0) (ks' := 0) rfl rfl (rwI (ws' := (bl [obW G a1 h1 q1 g124.1, obW G a2 h2 q2 g124.2, slB G q1, slB G q2])) (List.Perm.refl _) ?_)
              refine V.nmN (fun w2 ew2 => ?_)
              have hw2 : w2 < 2 := by rw [ew2]; exact upv_lt _ (by decide)
              exact hJ_229 _ (hvC (by omega) hk_ hw2)
            · refine V.iload_n E dL_areAlike_211 rfl rfl ?_
              refine V.iconst (v := nI (3)) E dL_areAlike_212 (by decide) ?_
              refine V.ishr E dL_areAlike_213 ?_
              refine V.bipush (v := nI (17)) E dL_areAlike_214 (by decide) ?_
              refine V.callS E (c_L_up G ((x_) >>> ((nI (3)) &&& 31)) 17 (by decide) (by decide)) (bl [obW G a1 h1 q1 g124.1, obW G a2 h2 q2 g124.2, slB G q1, slB G q2]) [] gL_areAlike_L_up rfl hd_L_up ⟨⟨Nat.le_of_ble_eq_true rfl, Nat.le_of_ble_eq_true rfl⟩, Nat.le_of_ble_eq_true rfl, Nat.le_of_ble_eq_true rfl⟩ rfl (Nat.le_of_ble_eq_true rfl) rfl dL_areAlike_216 (List.Perm.refl _) (kc' := 0) (ks' := 0) rfl rfl (rwI (ws' := (bl [obW G a1 h1 q1 g124.1, obW G a2 h2 q2 g124.2, slB G q1, slB G q2])) (List.Perm.refl _) ?_)
              refine V.nmN (fun w17 ew17 => ?_)
              have hw17 : w17 < 17 := by rw [ew17]; exact upv_lt _ (by decide)
              refine V.goto (tgt := 229) E dL_areAlike_219 (by decide) ?_
              exact hJ_229 _ (hvB (by omega) (by omega) hw17)
          · refine V.iload_n E dL_areAlike_194 rfl rfl ?_
            refine V.iconst (v := nI (3)) E dL_areAlike_195 (by decide) ?_
            refine V.ishr E dL_areAlike_196 ?_
            refine V.bipush (v := nI (46)) E dL_areAlike_197 (by decide) ?_
            refine V.callS E (c_L_up G ((x_) >>> ((nI (3)) &&& 31)) 46 (by decide) (by decide)) (bl [obW G a1 h1 q1 g124.1, obW G a2 h2 q2 g124.2, slB G q1, slB G q2]) [] gL_areAlike_L_up rfl hd_L_up ⟨⟨Nat.le_of_ble_eq_true rfl, Nat.le_of_ble_eq_true rfl⟩, Nat.le_of_ble_eq_true rfl, Nat.le_of_ble_eq_true rfl⟩ rfl (Nat.le_of_ble_eq_true rfl) rfl dL_areAlike_199 (List.Perm.refl _) (kc' := 0) (ks' := 0) rfl rfl (rwI (ws' := (bl [obW G a1 h1 q1 g124.1, obW G a2 h2 q2 g124.2, slB G q1, slB G q2])) (List.Perm.refl _) ?_)
            refine V.nmN (fun w46 ew46 => ?_)
            have hw46 : w46 < 46 := by rw [ew46]; exact upv_lt _ (by decide)
            refine V.goto (tgt := 229) E dL_areAlike_202 (by decide) ?_
            exact hJ_229 _ (hvA (by omega) hw46)
        · refine V.iload_n E dL_areAlike_130 rfl rfl ?_
          refine V.if_eqN (tgt := 172) E (by omega) dL_areAlike_131 (by decide) (fun q_131 => absurd q_131 (by decide)) (fun q_131 => ?_)
          refine V.aload_n E dL_areAlike_134 rfl rfl ?_
          refine V.iload E dL_areAlike_135 rfl ?_
          refine V.iconst (v := nI (0)) E dL_areAlike_137 (by decide) ?_
          refine V.callV (C := RX4) E (o_bestShare G a1 h1 q1 g124.1 i124 0 (h.q) (by omega) (by omega) (by decide)) (bl [obW G a2 h2 q2 g124.2, slB G q2]) [] 0 4 rfl rfl rfl gL_areAlike_X4_bestShare rfl ⟨rfl, hd_X4_bestShare⟩ ⟨⟨Nat.le_of_ble_eq_true rfl, Nat.le_of_ble_eq_true rfl⟩, Nat.le_of_ble_eq_true rfl, Nat.le_of_ble_eq_true rfl⟩ rfl (Nat.le_of_ble_eq_true rfl) rfl dL_areAlike_138 (pBs (n := 4) [obW G a1 h1 q1 g124.1, obW G a2 h2 q2 g124.2, slB G q1, slB G q2] [0, 2] [1, 3] rfl (by decide)) (kc' := 0) (ks' := 0) rfl rfl (rxI (ws' := fun (g_138 : OJ) => (bl [obW G a1 h1 q1 g_138, obW G a2 h2 q2 g124.2, slB G q1, slB G q2])) (fun g_138 => (pBs (n := 4) [obW G a1 h1 q1 g_138, obW G a2 h2 q2 g124.2, slB G q1, slB G q2] [0, 2] [1, 3] rfl (by decide)).symm) (fun g_138 hf_138 => ?_))
          refine V.aload_n E dL_areAlike_141 rfl rfl ?_
          refine V.iload E dL_areAlike_142 rfl ?_
          refine V.iconst (v := nI (0)) E dL_areAlike_144 (by decide) ?_
          refine V.callV (C := RX4) E (o_bestShare G a2 h2 q2 g124.2 i124 0 (h.r) (by omega) (by omega) (by decide)) (bl [obW G a1 h1 q1 g_138, slB G q1]) [.int (nI (if 0 = 0 then (bsh (oX q1) i124 17).1 else (bsh (oX q1) i124 17).2))] 66 4 rfl rfl rfl gL_areAlike_X4_bestShare rfl ⟨rfl, hd_X4_bestShare⟩ ⟨⟨Nat.le_of_ble_eq_true rfl, Nat.le_of_ble_eq_true rfl⟩, Nat.le_of_ble_eq_true rfl, Nat.le_of_ble_eq_true rfl⟩ rfl (Nat.le_of_ble_eq_true rfl) rfl dL_areAlike_145 (pBs (n := 4) [obW G a1 h1 q1 g_138, obW G a2 h2 q2 g124.2, slB G q1, slB G q2] [1, 3] [0, 2] rfl (by decide)) (kc' := 0) (ks' := 0) rfl rfl (rxI (ws' := fun (g_145 : OJ) => (bl [obW G a1 h1 q1 g_138, obW G a2 h2 q2 g_145, slB G q1, slB G q2])) (fun g_145 => (pBs (n := 4) [obW G a1 h1 q1 g_138, obW G a2 h2 q2 g_145, slB G q1, slB G q2] [1, 3] [0, 2] rfl (by decide)).symm) (fun g_145 hf_145 => ?_))
          refine V.icmp_ne (tgt := 172) E dL_areAlike_148 (by decide) (fun q_148 => ?_) (fun q_148 => ?_)
          · exact absurd (congrArg nI (h.bsh _ _)).symm q_148
          · refine V.aload_n E dL_areAlike_151 rfl rfl ?_
            refine V.iload E dL_areAlike_152 rfl ?_
            refine V.iconst (v := nI (1)) E dL_areAlike_154 (by decide) ?_
            refine V.callV (C := RX4) E (o_bestShare G a1 h1 q1 g_138 i124 1 (h.q) (by omega) (by omega) (by decide)) (bl [obW G a2 h2 q2 g_145, slB G q2]) [] 0 4 rfl rfl rfl gL_areAlike_X4_bestShare rfl ⟨rfl, hd_X4_bestShare⟩ ⟨⟨Nat.le_of_ble_eq_true rfl, Nat.le_of_ble_eq_true rfl⟩, Nat.le_of_ble_eq_true rfl, Nat.le_of_ble_eq_true rfl⟩ rfl (Nat.le_of_ble_eq_true rfl) rfl dL_areAlike_155 (pBs (n := 4) [obW G a1 h1 q1 g_138, obW G a2 h2 q2 g_145, slB G q1, slB G q2] [0, 2] [1, 3] rfl (by decide)) (kc' := 0) (ks' := 0) rfl rfl (rxI (ws' := fun (g_155 : OJ) => (bl [obW G a1 h1 q1 g_155, obW G a2 h2 q2 g_145, slB G q1, slB G q2])) (fun g_155 => (pBs (n := 4) [obW G a1 h1 q1 g_155, obW G a2 h2 q2 g_145, slB G q1, slB G q2] [0, 2] [1, 3] rfl (by decide)).symm) (fun g_155 hf_155 => ?_))
            refine V.aload_n E dL_areAlike_158 rfl rfl ?_
            refine V.iload E dL_areAlike_159 rfl ?_
            refine V.iconst (v := nI (1)) E dL_areAlike_161 (by decide) ?_
            refine V.callV (C := RX4) E (o_bestShare G a2 h2 q2 g_145 i124 1 (h.r) (by omega) (by omega) (by decide)) (bl [obW G a1 h1 q1 g_155, slB G q1]) [.int (nI (if 1 = 0 then (bsh (oX q1) i124 17).1 else (bsh (oX q1) i124 17).2))] 66 4 rfl rfl rfl gL_areAlike_X4_bestShare rfl ⟨rfl, hd_X4_bestShare⟩ ⟨⟨Nat.le_of_ble_eq_true rfl, Nat.le_of_ble_eq_true rfl⟩, Nat.le_of_ble_eq_true rfl, Nat.le_of_ble_eq_true rfl⟩ rfl (Nat.le_of_ble_eq_true rfl) rfl dL_areAlike_162 (pBs (n := 4) [obW G a1 h1 q1 g_155, obW G a2 h2 q2 g_145, slB G q1, slB G q2] [1, 3] [0, 2] rfl (by decide)) (kc' := 0) (ks' := 0) rfl rfl (rxI (ws' := fun (g_162 : OJ) => (bl [obW G a1 h1 q1 g_155, obW G a2 h2 q2 g_162, slB G q1, slB G q2])) (fun g_162 => (pBs (n := 4) [obW G a1 h1 q1 g_155, obW G a2 h2 q2 g_162, slB G q1, slB G q2] [1, 3] [0, 2] rfl (by decide)).symm) (fun g_162 hf_162 => ?_))
            refine V.icmp_ne (tgt := 172) E dL_areAlike_165 (by decide) (fun q_165 => ?_) (fun q_165 => ?_)
            · exact absurd (congrArg nI (h.bsh _ _)).symm q_165
            · refine V.iconst (v := nI (1)) E dL_areAlike_168 (by decide) ?_
              refine V.goto (tgt := 173) E dL_areAlike_169 (by decide) ?_
              refine V.istore_n (lv' := [some (.ref (a1 0 0)), some (.ref (a2 0 0)), some (.int (x_)), some (.int (nI (1))), some (.int (nI (i124))), none]) E dL_areAlike_173 rfl (Nat.le_of_ble_eq_true rfl) rfl rfl ?_
              refine V.iincN (lv' := [some (.ref (a1 0 0)), some (.ref (a2 0 0)), some (.int (x_)), some (.int (nI (1))), some (.int (nI (i124 + 1))), none]) E dL_areAlike_174 rfl (Nat.le_of_ble_eq_true rfl) rfl rfl ?_
              refine V.goto (tgt := 124) E dL_areAlike_177 (by decide) ?_
              show V G A X rm_o_areAlike (bl [obW G a1 h1 q1 (((g_155, g_162)).1), obW G a2 h2 q2 (((g_155, g_162)).2), slB G q1, slB G q2]) 0 0 124 [some (.ref (a1 0 0)), some (.ref (a2 0 0)), some (.int (x_)), some (.int (nI (1))), some (.int (nI (i124 + 1))), none] []
              exact ih_124 (by omega) ((g_155, g_162)) (by omega)
      · refine V.iload_n E dL_areAlike_71 rfl rfl ?_
        refine V.if_eqN (tgt := 113) E (by omega) dL_areAlike_72 (by decide) (fun q_72 => absurd q_72 (by decide)) (fun q_72 => ?_)
        refine V.aload_n E dL_areAlike_75 rfl rfl ?_
        refine V.iload E dL_areAlike_76 rfl ?_
        refine V.bipush (v := nI (10)) E dL_areAlike_78 (by decide) ?_
        refine V.idivN E (by omega) (by omega) (by omega) dL_areAlike_80 ?_
        refine V.iload E dL_areAlike_81 rfl ?_
        refine V.bipush (v := nI (10)) E dL_areAlike_83 (by decide) ?_
        refine V.iremN E (by omega) (by omega) (by omega) dL_areAlike_85 ?_
        refine V.callV (C := RX4) E (o_pixel G a1 h1 q1 g63.1 (i63 / 10) (i63 % 10) (h.q) (by omega) (by omega)) (bl [obW G a2 h2 q2 g63.2, slB G q2]) [] 0 4 rfl rfl rfl gL_areAlike_X4_pixel rfl ⟨rfl, hd_X4_pixel⟩ ⟨⟨Nat.le_of_ble_eq_true rfl, Nat.le_of_ble_eq_true rfl⟩, Nat.le_of_ble_eq_true rfl, Nat.le_of_ble_eq_true rfl⟩ rfl (Nat.le_of_ble_eq_true rfl) rfl dL_areAlike_86 (pBs (n := 4) [obW G a1 h1 q1 g63.1, obW G a2 h2 q2 g63.2, slB G q1, slB G q2] [0, 2] [1, 3] rfl (by decide)) (kc' := 0) (ks' := 0) rfl rfl (rxI (ws' := fun (g_86 : OJ) => (bl [obW G a1 h1 q1 g_86, obW G a2 h2 q2 g63.2, slB G q1, slB G q2])) (fun g_86 => (pBs (n := 4) [obW G a1 h1 q1 g_86, obW G a2 h2 q2 g63.2, slB G q1, slB G q2] [0, 2] [1, 3] rfl (by decide)).symm) (fun g_86 hf_86 => ?_))
        refine V.aload_n E dL_areAlike_89 rfl rfl ?_
        refine V.iload E dL_areAlike_90 rfl ?_
        refine V.bipush (v := nI (10)) E dL_areAlike_92 (by decide) ?_
        refine V.idivN E (by omega) (by omega) (by omega) dL_areAlike_94 ?_
        refine V.callS E (c_L_there G (i63 / 10) (by omega)) (bl [obW G a1 h1 q1 g_86, obW G a2 h2 q2 g63.2, slB G q1, slB G q2]) [.ref (a2 0 0), .int (nI (pxN (oX q1) (i63 / 10) (i63 % 10)))] gL_areAlike_L_there rfl hd_L_there ⟨⟨Nat.le_of_ble_eq_true rfl, Nat.le_of_ble_eq_true rfl⟩, Nat.le_of_ble_eq_true rfl, Nat.le_of_ble_eq_true rfl⟩ rfl (Nat.le_of_ble_eq_true rfl) rfl dL_areAlike_95 (List.Perm.refl _) (kc' := 0) (ks' := 0) rfl rfl (rwI (ws' := (bl [obW G a1 h1 q1 g_86, obW G a2 h2 q2 g63.2, slB G q1, slB G q2])) (List.Perm.refl _) ?_)
        refine V.iload E dL_areAlike_98 rfl ?_
        refine V.bipush (v := nI (10)) E dL_areAlike_100 (by decide) ?_
        refine V.iremN E (by omega) (by omega) (by omega) dL_areAlike_102 ?_
        refine V.callV (C := RX4) E (o_pixel G a2 h2 q2 g63.2 (mP (i63 / 10)) (i63 % 10) (h.r) (mP_lt (by omega)) (by omega)) (bl [obW G a1 h1 q1 g_86, slB G q1]) [.int (nI (pxN (oX q1) (i63 / 10) (i63 % 10)))] 66 4 rfl rfl rfl gL_areAlike_X4_pixel rfl ⟨rfl, hd_X4_pixel⟩ ⟨⟨Nat.le_of_ble_eq_true rfl, Nat.le_of_ble_eq_true rfl⟩, Nat.le_of_ble_eq_true rfl, Nat.le_of_ble_eq_true rfl⟩ rfl (Nat.le_of_ble_eq_true rfl) rfl dL_areAlike_103 (pBs (n := 4) [obW G a1 h1 q1 g_86, obW G a2 h2 q2 g63.2, slB G q1, slB G q2] [1, 3] [0, 2] rfl (by decide)) (kc' := 0) (ks' := 0) rfl rfl (rxI (ws' := fun (g_103 : OJ) => (bl [obW G a1 h1 q1 g_86, obW G a2 h2 q2 g_103, slB G q1, slB G q2])) (fun g_103 => (pBs (n := 4) [obW G a1 h1 q1 g_86, obW G a2 h2 q2 g_103, slB G q1, slB G q2] [1, 3] [0, 2] rfl (by decide)).symm) (fun g_103 hf_103 => ?_))
        refine V.icmp_ne (tgt := 113) E dL_areAlike_106 (by decide) (fun q_106 => ?_) (fun q_106 => ?_)
        · exact absurd (congrArg nI (h.px _ _)).symm q_106
        · refine V.iconst (v := nI (1)) E dL_areAlike_109 (by decide) ?_
          refine V.goto (tgt := 114) E dL_areAlike_110 (by decide) ?_
          refine V.istore_n (lv' := [some (.ref (a1 0 0)), some (.ref (a2 0 0)), some (.int (x_)), some (.int (nI (1))), some (.int (nI (i63))), none]) E dL_areAlike_114 rfl (Nat.le_of_ble_eq_true rfl) rfl rfl ?_
          refine V.iincN (lv' := [some (.ref (a1 0 0)), some (.ref (a2 0 0)), some (.int (x_)), some (.int (nI (1))), some (.int (nI (i63 + 1))), none]) E dL_areAlike_115 rfl (Nat.le_of_ble_eq_true rfl) rfl rfl ?_
          refine V.goto (tgt := 63) E dL_areAlike_118 (by decide) ?_
          show V G A X rm_o_areAlike (bl [obW G a1 h1 q1 (((g_86, g_103)).1), obW G a2 h2 q2 (((g_86, g_103)).2), slB G q1, slB G q2]) 0 0 63 [some (.ref (a1 0 0)), some (.ref (a2 0 0)), some (.int (x_)), some (.int (nI (1))), some (.int (nI (i63 + 1))), none] []
          exact ih_63 (by omega) ((g_86, g_103)) (trivial)
    · refine V.iload_n E dL_areAlike_29 rfl rfl ?_
      refine V.if_eqN (tgt := 52) E (by omega) dL_areAlike_30 (by decide) (fun q_30 => absurd q_30 (by decide)) (fun q_30 => ?_)
      refine V.aload_n E dL_areAlike_33 rfl rfl ?_
      refine V.iload E dL_areAlike_34 rfl ?_
      refine V.callV (C := RX4) E (o_count G a1 h1 q1 g22.1 i22 (h.q) (by omega)) (bl [obW G a2 h2 q2 g22.2, slB G q2]) [] 0 4 rfl rfl rfl gL_areAlike_X4_count rfl ⟨rfl, hd_X4_count⟩ ⟨⟨Nat.le_of_ble_eq_true rfl, Nat.le_of_ble_eq_true rfl⟩, Nat.le_of_ble_eq_true rfl, Nat.le_of_ble_eq_true rfl⟩ rfl (Nat.le_of_ble_eq_true rfl) rfl dL_areAlike_36 (pBs (n := 4) [obW G a1 h1 q1 g22.1, obW G a2 h2 q2 g22.2, slB G q1, slB G q2] [0, 2] [1, 3] rfl (by decide)) (kc' := 0) (ks' := 0) rfl rfl (rxI (ws' := fun (g_36 : OJ) => (bl [obW G a1 h1 q1 g_36, obW G a2 h2 q2 g22.2, slB G q1, slB G q2])) (fun g_36 => (pBs (n := 4) [obW G a1 h1 q1 g_36, obW G a2 h2 q2 g22.2, slB G q1, slB G q2] [0, 2] [1, 3] rfl (by decide)).symm) (fun g_36 hf_36 => ?_))
      refine V.aload_n E dL_areAlike_39 rfl rfl ?_
      refine V.iload E dL_areAlike_40 rfl ?_
      refine V.callV (C := RX4) E (o_count G a2 h2 q2 g22.2 i22 (h.r) (by omega)) (bl [obW G a1 h1 q1 g_36, slB G q1]) [.int (nI (cnN (oX q1) (oL q1) (oN q1) i22))] 66 4 rfl rfl rfl gL_areAlike_X4_count rfl ⟨rfl, hd_X4_count⟩ ⟨⟨Nat.le_of_ble_eq_true rfl, Nat.le_of_ble_eq_true rfl⟩, Nat.le_of_ble_eq_true rfl, Nat.le_of_ble_eq_true rfl⟩ rfl (Nat.le_of_ble_eq_true rfl) rfl dL_areAlike_42 (pBs (n := 4) [obW G a1 h1 q1 g_36, obW G a2 h2 q2 g22.2, slB G q1, slB G q2] [1, 3] [0, 2] rfl (by decide)) (kc' := 0) (ks' := 0) rfl rfl (rxI (ws' := fun (g_42 : OJ) => (bl [obW G a1 h1 q1 g_36, obW G a2 h2 q2 g_42, slB G q1, slB G q2])) (fun g_42 => (pBs (n := 4) [obW G a1 h1 q1 g_36, obW G a2 h2 q2 g_42, slB G q1, slB G q2] [1, 3] [0, 2] rfl (by decide)).symm) (fun g_42 hf_42 => ?_))
      refine V.icmp_ne (tgt := 52) E dL_areAlike_45 (by decide) (fun q_45 => ?_) (fun q_45 => ?_)
      · exact absurd (congrArg nI (h.cnt (by omega))).symm q_45
      · refine V.iconst (v := nI (1)) E dL_areAlike_48 (by decide) ?_
        refine V.goto (tgt := 53) E dL_areAlike_49 (by decide) ?_
        refine V.istore_n (lv' := [some (.ref (a1 0 0)), some (.ref (a2 0 0)), some (.int (x_)), some (.int (nI (1))), some (.int (nI (i22))), none]) E dL_areAlike_53 rfl (Nat.le_of_ble_eq_true rfl) rfl rfl ?_
        refine V.iincN (lv' := [some (.ref (a1 0 0)), some (.ref (a2 0 0)), some (.int (x_)), some (.int (nI (1))), some (.int (nI (i22 + 1))), none]) E dL_areAlike_54 rfl (Nat.le_of_ble_eq_true rfl) rfl rfl ?_
        refine V.goto (tgt := 22) E dL_areAlike_57 (by decide) ?_
        show V G A X rm_o_areAlike (bl [obW G a1 h1 q1 (((g_36, g_42)).1), obW G a2 h2 q2 (((g_36, g_42)).2), slB G q1, slB G q2]) 0 0 22 [some (.ref (a1 0 0)), some (.ref (a2 0 0)), some (.int (x_)), some (.int (nI (1))), some (.int (nI (i22 + 1))), none] []
        exact ih_22 (by omega) ((g_36, g_42)) (trivial)
