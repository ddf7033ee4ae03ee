/-! the class: what is shown of a pixel -/
abbrev rm_c_X4_pixel_bad : Room := { frames := 1, cells := 0, slots := 0, locals := 20 }
theorem hd_X4_pixel : yX4_pixel.cls ≠ "java/lang/invoke/MethodHandle" ∧ yX4_pixel.cls ≠ "java/lang/invoke/VarHandle" ∧ (parseMethodDescriptor yX4_pixel.desc).map (fun d => d.parameters.length) = some 2 := by decide +kernel
set_option maxRecDepth 100000 in
set_option maxHeartbeats 8000000 in
theorem c_X4_pixel_bad (G : VC) (ad : AD) (s0 : Option Nat) (s1 : Option Nat) (x : SC) (p_ : Int32) (w_ : Int32) (hb : okI 48 p_ = false) : Ctr yX4_pixel wsX4_pixel rm_c_X4_pixel_bad G [.ref (ad 0 0), .int (p_), .int (w_)] (bl [gsW G ad s0 s1, scW G (ad 1) x]) (fun v9_ u9_ => u9_ = (bl [gsW G ad s0 s1, scW G (ad 1) x]) ∧ v9_ = some (.int ((-1 : Int32)))) := by
  refine Ctr.int (cc := cX4_pixel) (maxL := 3) (ret := (some .int)) (lv0 := [some (.ref (ad 0 0)), some (.int (p_)), some (.int (w_))]) (by decide) rfl rfl rfl (Nat.le_of_ble_eq_true rfl) rfl (fun A X E hend => ?_)
  refine V.iload_n E dX4_pixel_0 rfl rfl ?_
  refine V.callS E (c_X4_isPixel G p_ ) (bl [gsW G ad s0 s1, scW G (ad 1) x]) [] gX4_pixel_X4_isPixel rfl hd_X4_isPixel ⟨⟨Nat.le_of_ble_eq_true rfl, Nat.le_of_ble_eq_true rfl⟩, Nat.le_of_ble_eq_true rfl, Nat.le_of_ble_eq_true rfl⟩ rfl (Nat.le_of_ble_eq_true rfl) rfl dX4_pixel_1 (List.Perm.refl _) (kc' := 0) (ks' := 0) rfl rfl (rwI (ws' := (bl [gsW G ad s0 s1, scW G (ad 1) x])) (List.Perm.refl _) ?_)
  refine V.if_neB (tgt := 9) E dX4_pixel_4 (by decide) (fun q_4 => ?_) (fun q_4 => ?_)
  · exact absurd (hb.symm.trans q_4) (by decide)
  · refine V.iconst (v := (-1 : Int32)) E dX4_pixel_7 (by decide) ?_
    exact hend _ _ _ _ dX4_pixel_8 (nrI _) ⟨rfl, rfl⟩
abbrev rm_c_X4_pixel_ok : Room := { frames := 6, cells := 0, slots := 0, locals := 130 }
set_option maxRecDepth 100000 in
set_option maxHeartbeats 8000000 in
theorem c_X4_pixel_ok (G : VC) (ad : AD) (s0 : Option Nat) (s1 : Option Nat) (x : SC) (vr : Nat → Nat) (vo : Nat → Nat) (vk : Nat → Nat) (vs : Nat → Nat) (vt : Nat → Nat) (vc : Nat → Nat) (vm : Nat → Nat) (ve : Nat → Nat) (vq : Nat → Nat) (vn : Nat) (p_ : Nat) (w_ : Int32) (hx : SInv x) (hp : p_ < 48) : Ctr yX4_pixel wsX4_pixel rm_c_X4_pixel_ok G [.ref (ad 0 0), .int (nI (p_)), .int (w_)] (bl [gsW G ad s0 s1, scW G (ad 1) x, vwW G (ad 3) vr vo vk vs vt vc vm ve vq vn]) (fun v9_ u9_ => ∃ zz : GZ, u9_ = (bl [gsW G ad s0 s1, scW G (ad 1) x, vwW G (ad 3) (rawF x) (opqF x) (kndF x) (splF x) (tknF x) (clnF x) (cmpF x) zz.1 zz.2.1 zz.2.2]) ∧ v9_ = some (.int (pxA x p_ w_)) ∧ (True)) := by
  refine Ctr.int (cc := cX4_pixel) (maxL := 3) (ret := (some .int)) (lv0 := [some (.ref (ad 0 0)), some (.int (nI (p_))), some (.int (w_))]) (by decide) rfl rfl rfl (Nat.le_of_ble_eq_true rfl) rfl (fun A X E hend => ?_)
  refine V.iload_n E dX4_pixel_0 rfl rfl ?_
  refine V.callS E (c_X4_isPixel G (nI (p_)) ) (bl [gsW G ad s0 s1, scW G (ad 1) x, vwW G (ad 3) vr vo vk vs vt vc vm ve vq vn]) [] gX4_pixel_X4_isPixel rfl hd_X4_isPixel ⟨⟨Nat.le_of_ble_eq_true rfl, Nat.le_of_ble_eq_true rfl⟩, Nat.le_of_ble_eq_true rfl, Nat.le_of_ble_eq_true rfl⟩ rfl (Nat.le_of_ble_eq_true rfl) rfl dX4_pixel_1 (List.Perm.refl _) (kc' := 0) (ks' := 0) rfl rfl (rwI (ws' := (bl [gsW G ad s0 s1, scW G (ad 1) x, vwW G (ad 3) vr vo vk vs vt vc vm ve vq vn])) (List.Perm.refl _) ?_)
  refine V.if_neB (tgt := 9) E dX4_pixel_4 (by decide) (fun q_4 => ?_) (fun q_4 => ?_)
  · refine V.aload_n E dX4_pixel_9 rfl rfl ?_
    refine V.getf (C := RX4) (T := TX4) (N := 7) (ref := "GlassSpill") E 0 4 2 (by decide +kernel) rfl rfl (by decide) (by decide +kernel) rfl rfl dX4_pixel_10 ?_
    refine V.aload_n E dX4_pixel_13 rfl rfl ?_
    refine V.getf (C := RX4) (T := TX4) (N := 7) (ref := "GlassSpill") E 0 4 0 (by decide +kernel) rfl rfl (by decide) (by decide +kernel) rfl rfl dX4_pixel_14 ?_
    refine V.callV (C := RX3) E (c_X3_show G (ad 3) vr vo vk vs vt vc vm ve vq vn (ad 1) x (hx)) (bl [gsW G ad s0 s1]) [] 7 3 rfl rfl rfl gX4_pixel_X3_show rfl ⟨rfl, hd_X3_show⟩ ⟨⟨Nat.le_of_ble_eq_true rfl, Nat.le_of_ble_eq_true rfl⟩, Nat.le_of_ble_eq_true rfl, Nat.le_of_ble_eq_true rfl⟩ rfl (Nat.le_of_ble_eq_true rfl) rfl dX4_pixel_17 (pBs (n := 3) [gsW G ad s0 s1, scW G (ad 1) x, vwW G (ad 3) vr vo vk vs vt vc vm ve vq vn] [2, 1] [0] rfl (by decide)) (kc' := 0) (ks' := 0) rfl rfl (rxV (ws' := fun (g_17 : GZ) => (bl [gsW G ad s0 s1, scW G (ad 1) x, vwW G (ad 3) (rawF x) (opqF x) (kndF x) (splF x) (tknF x) (clnF x) (cmpF x) g_17.1 g_17.2.1 g_17.2.2])) (fun g_17 => (pBs (n := 3) [gsW G ad s0 s1, scW G (ad 1) x, vwW G (ad 3) (rawF x) (opqF x) (kndF x) (splF x) (tknF x) (clnF x) (cmpF x) g_17.1 g_17.2.1 g_17.2.2] [2, 1] [0] rfl (by decide)).symm) (fun g_17 hf_17 => ?_))
    refine V.iload_n E dX4_pixel_20 rfl rfl ?_
    rcases sw10 w_ with rfl | rfl | rfl | rfl | rfl | rfl | rfl | rfl | rfl | rfl | h_
    · refine V.tableIn (off := 55) (tgt := 76) E dX4_pixel_21 (by decide) (by decide) (by decide) (by decide) ?_
      refine V.aload_n E dX4_pixel_76 rfl rfl ?_
      refine V.getf (C := RX4) (T := TX4) (N := 7) (ref := "GlassSpill") E 0 4 0 (by decide +kernel) rfl rfl (by decide) (by decide +kernel) rfl rfl dX4_pixel_77 ?_
      refine V.getf (C := RX2) (T := TX2) (N := 5) (ref := "GlassSpill$Scene") E 2 2 1 (by decide +kernel) rfl rfl (by decide) (by decide +kernel) rfl rfl dX4_pixel_80 ?_
      refine V.iload_n E dX4_pixel_83 rfl rfl ?_
      refine V.ialdN (v := nI (scF x p_)) E 4 rfl (by omega) (by decide) (rfl) dX4_pixel_84 ?_
      refine V.top (y := pxA x p_ (nI 0)) (pxA_k x p_ (k := 0) (by decide)) ?_
      exact hend _ _ _ _ dX4_pixel_85 (nrI _) ⟨g_17, rfl, rfl, trivial⟩
    · refine V.tableIn (off := 65) (tgt := 86) E dX4_pixel_21 (by decide) (by decide) (by decide) (by decide) ?_
      refine V.aload_n E dX4_pixel_86 rfl rfl ?_
      refine V.getf (C := RX4) (T := TX4) (N := 7) (ref := "GlassSpill") E 0 4 0 (by decide +kernel) rfl rfl (by decide) (by decide +kernel) rfl rfl dX4_pixel_87 ?_
      refine V.getf (C := RX2) (T := TX2) (N := 5) (ref := "GlassSpill$Scene") E 2 2 2 (by decide +kernel) rfl rfl (by decide) (by decide +kernel) rfl rfl dX4_pixel_90 ?_
      refine V.iload_n E dX4_pixel_93 rfl rfl ?_
      refine V.ialdN (v := nI (scB x p_)) E 5 rfl (by omega) (by decide) (rfl) dX4_pixel_94 ?_
      refine V.top (y := pxA x p_ (nI 1)) (pxA_k x p_ (k := 1) (by decide)) ?_
      exact hend _ _ _ _ dX4_pixel_95 (nrI _) ⟨g_17, rfl, rfl, trivial⟩
    · refine V.tableIn (off := 75) (tgt := 96) E dX4_pixel_21 (by decide) (by decide) (by decide) (by decide) ?_
      refine V.aload_n E dX4_pixel_96 rfl rfl ?_
      refine V.getf (C := RX4) (T := TX4) (N := 7) (ref := "GlassSpill") E 0 4 0 (by decide +kernel) rfl rfl (by decide) (by decide +kernel) rfl rfl dX4_pixel_97 ?_
      refine V.iload_n E dX4_pixel_100 rfl rfl ?_
      refine V.callV (C := RX2) E (c_X2_distanceOf G (ad 1) x p_ (hx) (hp)) (bl [gsW G ad s0 s1, vwW G (ad 3) (rawF x) (opqF x) (kndF x) (splF x) (tknF x) (clnF x) (cmpF x) g_17.1 g_17.2.1 g_17.2.2]) [] 2 2 rfl rfl rfl gX4_pixel_X2_distanceOf rfl ⟨rfl, hd_X2_distanceOf⟩ ⟨⟨Nat.le_of_ble_eq_true rfl, Nat.le_of_ble_eq_true rfl⟩, Nat.le_of_ble_eq_true rfl, Nat.le_of_ble_eq_true rfl⟩ rfl (Nat.le_of_ble_eq_true rfl) rfl dX4_pixel_101 (pBs (n := 3) [gsW G ad s0 s1, scW G (ad 1) x, vwW G (ad 3) (rawF x) (opqF x) (kndF x) (splF x) (tknF x) (clnF x) (cmpF x) g_17.1 g_17.2.1 g_17.2.2] [1] [0, 2] rfl (by decide)) (kc' := 0) (ks' := 0) rfl rfl (rwI (ws' := (bl [gsW G ad s0 s1, scW G (ad 1) x, vwW G (ad 3) (rawF x) (opqF x) (kndF x) (splF x) (tknF x) (clnF x) (cmpF x) g_17.1 g_17.2.1 g_17.2.2])) (pBs (n := 3) [gsW G ad s0 s1, scW G (ad 1) x, vwW G (ad 3) (rawF x) (opqF x) (kndF x) (splF x) (tknF x) (clnF x) (cmpF x) g_17.1 g_17.2.1 g_17.2.2] [1] [0, 2] rfl (by decide)).symm ?_)
      refine V.top (y := pxA x p_ (nI 2)) (pxA_k x p_ (k := 2) (by decide)) ?_
      exact hend _ _ _ _ dX4_pixel_104 (nrI _) ⟨g_17, rfl, rfl, trivial⟩
    · refine V.tableIn (off := 84) (tgt := 105) E dX4_pixel_21 (by decide) (by decide) (by decide) (by decide) ?_
      refine V.aload_n E dX4_pixel_105 rfl rfl ?_
      refine V.getf (C := RX4) (T := TX4) (N := 7) (ref := "GlassSpill") E 0 4 2 (by decide +kernel) rfl rfl (by decide) (by decide +kernel) rfl rfl dX4_pixel_106 ?_
      refine V.getf (C := RX3) (T := TX3) (N := 10) (ref := "GlassSpill$View") E 7 3 0 (by decide +kernel) rfl rfl (by decide) (by decide +kernel) rfl rfl dX4_pixel_109 ?_
      refine V.iload_n E dX4_pixel_112 rfl rfl ?_
      refine V.ialdN (v := nI ((rawF x) p_)) E 8 rfl (by omega) (by decide) (rfl) dX4_pixel_113 ?_
      refine V.top (y := pxA x p_ (nI 3)) (pxA_k x p_ (k := 3) (by decide)) ?_
      exact hend _ _ _ _ dX4_pixel_114 (nrI _) ⟨g_17, rfl, rfl, trivial⟩
    · refine V.tableIn (off := 94) (tgt := 115) E dX4_pixel_21 (by decide) (by decide) (by decide) (by decide) ?_
      refine V.aload_n E dX4_pixel_115 rfl rfl ?_
      refine V.getf (C := RX4) (T := TX4) (N := 7) (ref := "GlassSpill") E 0 4 2 (by decide +kernel) rfl rfl (by decide) (by decide +kernel) rfl rfl dX4_pixel_116 ?_
      refine V.getf (C := RX3) (T := TX3) (N := 10) (ref := "GlassSpill$View") E 7 3 1 (by decide +kernel) rfl rfl (by decide) (by decide +kernel) rfl rfl dX4_pixel_119 ?_
      refine V.iload_n E dX4_pixel_122 rfl rfl ?_
      refine V.ialdN (v := nI ((opqF x) p_)) E 9 rfl (by omega) (by decide) (rfl) dX4_pixel_123 ?_
      refine V.top (y := pxA x p_ (nI 4)) (pxA_k x p_ (k := 4) (by decide)) ?_
      exact hend _ _ _ _ dX4_pixel_124 (nrI _) ⟨g_17, rfl, rfl, trivial⟩
    · refine V.tableIn (off := 104) (tgt := 125) E dX4_pixel_21 (by decide) (by decide) (by decide) (by decide) ?_
      refine V.aload_n E dX4_pixel_125 rfl rfl ?_
      refine V.getf (C := RX4) (T := TX4) (N := 7) (ref := "GlassSpill") E 0 4 2 (by decide +kernel) rfl rfl (by decide) (by decide +kernel) rfl rfl dX4_pixel_126 ?_
      refine V.getf (C := RX3) (T := TX3) (N := 10) (ref := "GlassSpill$View") E 7 3 2 (by decide +kernel) rfl rfl (by decide) (by decide +kernel) rfl rfl dX4_pixel_129 ?_
      refine V.iload_n E dX4_pixel_132 rfl rfl ?_
      refine V.ialdN (v := nI ((kndF x) p_)) E 10 rfl (by omega) (by decide) (rfl) dX4_pixel_133 ?_
      refine V.top (y := pxA x p_ (nI 5)) (pxA_k x p_ (k := 5) (by decide)) ?_
      exact hend _ _ _ _ dX4_pixel_134 (nrI _) ⟨g_17, rfl, rfl, trivial⟩
    · refine V.tableIn (off := 114) (tgt := 135) E dX4_pixel_21 (by decide) (by decide) (by decide) (by decide) ?_
      refine V.aload_n E dX4_pixel_135 rfl rfl ?_
      refine V.getf (C := RX4) (T := TX4) (N := 7) (ref := "GlassSpill") E 0 4 2 (by decide +kernel) rfl rfl (by decide) (by decide +kernel) rfl rfl dX4_pixel_136 ?_
      refine V.getf (C := RX3) (T := TX3) (N := 10) (ref := "GlassSpill$View") E 7 3 3 (by decide +kernel) rfl rfl (by decide) (by decide +kernel) rfl rfl dX4_pixel_139 ?_
      refine V.iload_n E dX4_pixel_142 rfl rfl ?_
      refine V.ialdN (v := nI ((splF x) p_)) E 11 rfl (by omega) (by decide) (rfl) dX4_pixel_143 ?_
      refine V.top (y := pxA x p_ (nI 6)) (pxA_k x p_ (k := 6) (by decide)) ?_
      exact hend _ _ _ _ dX4_pixel_144 (nrI _) ⟨g_17, rfl, rfl, trivial⟩
    · refine V.tableIn (off := 124) (tgt := 145) E dX4_pixel_21 (by decide) (by decide) (by decide) (by decide) ?_
      refine V.aload_n E dX4_pixel_145 rfl rfl ?_
      refine V.getf (C := RX4) (T := TX4) (N := 7) (ref := "GlassSpill") E 0 4 2 (by decide +kernel) rfl rfl (by decide) (by decide +kernel) rfl rfl dX4_pixel_146 ?_
      refine V.getf (C := RX3) (T := TX3) (N := 10) (ref := "GlassSpill$View") E 7 3 4 (by decide +kernel) rfl rfl (by decide) (by decide +kernel) rfl rfl dX4_pixel_149 ?_
      refine V.iload_n E dX4_pixel_152 rfl rfl ?_
      refine V.ialdN (v := nI ((tknF x) p_)) E 12 rfl (by omega) (by decide) (rfl) dX4_pixel_153 ?_
      refine V.top (y := pxA x p_ (nI 7)) (pxA_k x p_ (k := 7) (by decide)) ?_
      exact hend _ _ _ _ dX4_pixel_154 (nrI _) ⟨g_17, rfl, rfl, trivial⟩
    · refine V.tableIn (off := 134) (tgt := 155) E dX4_pixel_21 (by decide) (by decide) (by decide) (by decide) ?_
      refine V.aload_n E dX4_pixel_155 rfl rfl ?_
      refine V.getf (C := RX4) (T := TX4) (N := 7) (ref := "GlassSpill") E 0 4 2 (by decide +kernel) rfl rfl (by decide) (by decide +kernel) rfl rfl dX4_pixel_156 ?_
      refine V.getf (C := RX3) (T := TX3) (N := 10) (ref := "GlassSpill$View") E 7 3 5 (by decide +kernel) rfl rfl (by decide) (by decide +kernel) rfl rfl dX4_pixel_159 ?_
      refine V.iload_n E dX4_pixel_162 rfl rfl ?_
      refine V.ialdN (v := nI ((clnF x) p_)) E 13 rfl (by omega) (by decide) (rfl) dX4_pixel_163 ?_
      refine V.top (y := pxA x p_ (nI 8)) (pxA_k x p_ (k := 8) (by decide)) ?_
      exact hend _ _ _ _ dX4_pixel_164 (nrI _) ⟨g_17, rfl, rfl, trivial⟩
    · refine V.tableIn (off := 144) (tgt := 165) E dX4_pixel_21 (by decide) (by decide) (by decide) (by decide) ?_
      refine V.aload_n E dX4_pixel_165 rfl rfl ?_
      refine V.getf (C := RX4) (T := TX4) (N := 7) (ref := "GlassSpill") E 0 4 2 (by decide +kernel) rfl rfl (by decide) (by decide +kernel) rfl rfl dX4_pixel_166 ?_
      refine V.getf (C := RX3) (T := TX3) (N := 10) (ref := "GlassSpill$View") E 7 3 6 (by decide +kernel) rfl rfl (by decide) (by decide +kernel) rfl rfl dX4_pixel_169 ?_
      refine V.iload_n E dX4_pixel_172 rfl rfl ?_
      refine V.ialdN (v := nI ((cmpF x) p_)) E 14 rfl (by omega) (by decide) (rfl) dX4_pixel_173 ?_
      refine V.top (y := pxA x p_ (nI 9)) (pxA_k x p_ (k := 9) (by decide)) ?_
      exact hend _ _ _ _ dX4_pixel_174 (nrI _) ⟨g_17, rfl, rfl, trivial⟩
    · refine V.tableOut (tgt := 175) E dX4_pixel_21 (h_) (by decide) ?_
      refine V.bipush (v := (-2 : Int32)) E dX4_pixel_175 (by decide) ?_
      refine V.top (y := pxA x p_ w_) (by unfold pxA; rw [okI_out (by omega)]; rfl) ?_
      exact hend _ _ _ _ dX4_pixel_177 (nrI _) ⟨g_17, rfl, rfl, trivial⟩
  · exact absurd ((okI_n hp (by omega)).symm.trans q_4) (by decide)
