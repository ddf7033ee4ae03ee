/-! the law, case by case: set, screen, paint -/
set_option maxRecDepth 100000 in
set_option maxHeartbeats 16000000 in
theorem lw_set {G : VC} {A : Nat → Prop} {X : VX} (E : Ev G A X cL_law RL wsL_law 4) {b L : Nat} {sc : Nat → Int32} (S : SX A X b L sc) {i : Nat} (hi_ : i + 4 < L) {kc ks : Nat} (hkc : kc + 5 ≤ 600000) (hks : ks + 155 ≤ 7302250) {a : Nat → Nat} {ad ha : AD} (hi : Nat → Nat) (sl : Nat → Nat) (sv : Nat → Nat) (mr : Nat → Nat) (mo : Nat → Nat) (mk : Nat → Nat) (mt : Nat → Nat) (mm : Nat → Nat) (me : Nat → Nat) (mw : Nat → Nat) (tx : Nat → Nat) (cl : Nat → Int32) (hl : Nat) (tl : Nat) (sp : Nat) (rd : Nat) (x : SC) (y : SC) (ur : Nat → Nat) (uo : Nat → Nat) (uk : Nat → Nat) (us : Nat → Nat) (ut : Nat → Nat) (uc : Nat → Nat) (um : Nat → Nat) (ue : Nat → Nat) (uq : Nat → Nat) (un_ : Nat) (zr : Nat → Nat) (zo : Nat → Nat) (zk : Nat → Nat) (zs : Nat → Nat) (zt : Nat → Nat) (zc : Nat → Nat) (zm : Nat → Nat) (ze : Nat → Nat) (zq : Nat → Nat) (zn_ : Nat) (ro : Nat) (rg : Nat → SC) (hh : Nat → SC) (S0 : SLT) (S1 : SLT) (q : LI x hl tl ro rg hh hi sl sv tx S0 S1) (K : LK G A X (kc + 5) (ks + 155) b i a ad ha) : V G A X room_1 (bl [gsW G ad (slA S0) (slA S1), mdW G a (fla x) hi sl sv mr mo mk mt mm me mw tx cl hl tl sp rd, scW G (ad 1) x, scW G (ad 2) y, vwW G (ad 3) ur uo uk us ut uc um ue uq un_, vwW G (ad 4) zr zo zk zs zt zc zm ze zq zn_, pdW G (ad 5) tx tl, hiW G (ad 6) ha ro hl, scW G (ha 0) (rg 0), scW G (ha 1) (rg 1), scW G (ha 2) (rg 2), scW G (ha 3) (rg 3), scW G (ha 4) (rg 4), scW G (ha 5) (rg 5), slW G S0, slW G S1]) kc ks 128 [some (.ref b), some (.ref (ad 0 0)), some (.ref (a 0)), some (.int (nI (i)))] [] := by
  obtain ⟨q_x, q_l, q_o, q_r, q_R, q_H, q_t, q_0, q_1⟩ := id q
  by_cases hb : okSet (sc (i + 1)) (sc (i + 2)) = false
  · refine V.aload_n E dL_law_128 rfl rfl ?_
    refine V.aload_n E dL_law_129 rfl rfl ?_
    refine V.iload_n E dL_law_130 rfl rfl ?_
    refine V.iconst (v := nI (1)) E dL_law_131 (by decide) ?_
    refine V.iaddN E  dL_law_132 ?_
    refine V.sld (v := sc (i + 1)) E S (by omega) (rfl) dL_law_133 ?_
    refine V.aload_n E dL_law_134 rfl rfl ?_
    refine V.iload_n E dL_law_135 rfl rfl ?_
    refine V.iconst (v := nI (2)) E dL_law_136 (by decide) ?_
    refine V.iaddN E  dL_law_137 ?_
    refine V.sld (v := sc (i + 2)) E S (by omega) (rfl) dL_law_138 ?_
    refine V.callV (C := RX4) E (c_X4_set_bad G ad (slA S0) (slA S1) x (sc (i + 1)) (sc (i + 2)) (hb)) (bl [mdW G a (fla x) hi sl sv mr mo mk mt mm me mw tx cl hl tl sp rd, scW G (ad 2) y, vwW G (ad 3) ur uo uk us ut uc um ue uq un_, vwW G (ad 4) zr zo zk zs zt zc zm ze zq zn_, pdW G (ad 5) tx tl, hiW G (ad 6) ha ro hl, scW G (ha 0) (rg 0), scW G (ha 1) (rg 1), scW G (ha 2) (rg 2), scW G (ha 3) (rg 3), scW G (ha 4) (rg 4), scW G (ha 5) (rg 5), slW G S0, slW G S1]) [] 0 4 rfl rfl rfl gL_law_X4_set rfl ⟨rfl, hd_X4_set⟩ ⟨⟨Nat.le_of_ble_eq_true rfl, Nat.le_of_ble_eq_true rfl⟩, rmL hkc rfl, rmS hks rfl⟩ rfl (Nat.le_of_ble_eq_true rfl) rfl dL_law_139 (pBs (n := 16) [gsW G ad (slA S0) (slA S1), mdW G a (fla x) hi sl sv mr mo mk mt mm me mw tx cl hl tl sp rd, scW G (ad 1) x, scW G (ad 2) y, vwW G (ad 3) ur uo uk us ut uc um ue uq un_, vwW G (ad 4) zr zo zk zs zt zc zm ze zq zn_, pdW G (ad 5) tx tl, hiW G (ad 6) ha ro hl, scW G (ha 0) (rg 0), scW G (ha 1) (rg 1), scW G (ha 2) (rg 2), scW G (ha 3) (rg 3), scW G (ha 4) (rg 4), scW G (ha 5) (rg 5), slW G S0, slW G S1] [0, 2] [1, 3, 4, 5, 6, 7, 8, 9, 10, 11, 12, 13, 14, 15] rfl (by decide)) (kc' := kc) (ks' := ks) rfl rfl (rwI (ws' := (bl [gsW G ad (slA S0) (slA S1), mdW G a (fla x) hi sl sv mr mo mk mt mm me mw tx cl hl tl sp rd, scW G (ad 1) x, scW G (ad 2) y, vwW G (ad 3) ur uo uk us ut uc um ue uq un_, vwW G (ad 4) zr zo zk zs zt zc zm ze zq zn_, pdW G (ad 5) tx tl, hiW G (ad 6) ha ro hl, scW G (ha 0) (rg 0), scW G (ha 1) (rg 1), scW G (ha 2) (rg 2), scW G (ha 3) (rg 3), scW G (ha 4) (rg 4), scW G (ha 5) (rg 5), slW G S0, slW G S1])) (pBs (n := 16) [gsW G ad (slA S0) (slA S1), mdW G a (fla x) hi sl sv mr mo mk mt mm me mw tx cl hl tl sp rd, scW G (ad 1) x, scW G (ad 2) y, vwW G (ad 3) ur uo uk us ut uc um ue uq un_, vwW G (ad 4) zr zo zk zs zt zc zm ze zq zn_, pdW G (ad 5) tx tl, hiW G (ad 6) ha ro hl, scW G (ha 0) (rg 0), scW G (ha 1) (rg 1), scW G (ha 2) (rg 2), scW G (ha 3) (rg 3), scW G (ha 4) (rg 4), scW G (ha 5) (rg 5), slW G S0, slW G S1] [0, 2] [1, 3, 4, 5, 6, 7, 8, 9, 10, 11, 12, 13, 14, 15] rfl (by decide)).symm ?_)
    refine V.aload_n E dL_law_142 rfl rfl ?_
    refine V.aload_n E dL_law_143 rfl rfl ?_
    refine V.iload_n E dL_law_144 rfl rfl ?_
    refine V.iconst (v := nI (1)) E dL_law_145 (by decide) ?_
    refine V.iaddN E  dL_law_146 ?_
    refine V.sld (v := sc (i + 1)) E S (by omega) (rfl) dL_law_147 ?_
    refine V.aload_n E dL_law_148 rfl rfl ?_
    refine V.iload_n E dL_law_149 rfl rfl ?_
    refine V.iconst (v := nI (2)) E dL_law_150 (by decide) ?_
    refine V.iaddN E  dL_law_151 ?_
    refine V.sld (v := sc (i + 2)) E S (by omega) (rfl) dL_law_152 ?_
    refine V.callV (C := RX5) E (c_X5_set_bad G a hi sl sv mr mo mk mt mm me mw tx cl hl tl sp rd x (sc (i + 1)) (sc (i + 2)) (hb)) (bl [gsW G ad (slA S0) (slA S1), scW G (ad 1) x, scW G (ad 2) y, vwW G (ad 3) ur uo uk us ut uc um ue uq un_, vwW G (ad 4) zr zo zk zs zt zc zm ze zq zn_, pdW G (ad 5) tx tl, hiW G (ad 6) ha ro hl, scW G (ha 0) (rg 0), scW G (ha 1) (rg 1), scW G (ha 2) (rg 2), scW G (ha 3) (rg 3), scW G (ha 4) (rg 4), scW G (ha 5) (rg 5), slW G S0, slW G S1]) [.int ((-2 : Int32))] 2 5 rfl rfl rfl gL_law_X5_set rfl ⟨rfl, hd_X5_set⟩ ⟨⟨Nat.le_of_ble_eq_true rfl, Nat.le_of_ble_eq_true rfl⟩, rmL hkc rfl, rmS hks rfl⟩ rfl (Nat.le_of_ble_eq_true rfl) rfl dL_law_153 (pBs (n := 16) [gsW G ad (slA S0) (slA S1), mdW G a (fla x) hi sl sv mr mo mk mt mm me mw tx cl hl tl sp rd, scW G (ad 1) x, scW G (ad 2) y, vwW G (ad 3) ur uo uk us ut uc um ue uq un_, vwW G (ad 4) zr zo zk zs zt zc zm ze zq zn_, pdW G (ad 5) tx tl, hiW G (ad 6) ha ro hl, scW G (ha 0) (rg 0), scW G (ha 1) (rg 1), scW G (ha 2) (rg 2), scW G (ha 3) (rg 3), scW G (ha 4) (rg 4), scW G (ha 5) (rg 5), slW G S0, slW G S1] [1] [0, 2, 3, 4, 5, 6, 7, 8, 9, 10, 11, 12, 13, 14, 15] rfl (by decide)) (kc' := kc) (ks' := ks) rfl rfl (rwI (ws' := (bl [gsW G ad (slA S0) (slA S1), mdW G a (fla x) hi sl sv mr mo mk mt mm me mw tx cl hl tl sp rd, scW G (ad 1) x, scW G (ad 2) y, vwW G (ad 3) ur uo uk us ut uc um ue uq un_, vwW G (ad 4) zr zo zk zs zt zc zm ze zq zn_, pdW G (ad 5) tx tl, hiW G (ad 6) ha ro hl, scW G (ha 0) (rg 0), scW G (ha 1) (rg 1), scW G (ha 2) (rg 2), scW G (ha 3) (rg 3), scW G (ha 4) (rg 4), scW G (ha 5) (rg 5), slW G S0, slW G S1])) (pBs (n := 16) [gsW G ad (slA S0) (slA S1), mdW G a (fla x) hi sl sv mr mo mk mt mm me mw tx cl hl tl sp rd, scW G (ad 1) x, scW G (ad 2) y, vwW G (ad 3) ur uo uk us ut uc um ue uq un_, vwW G (ad 4) zr zo zk zs zt zc zm ze zq zn_, pdW G (ad 5) tx tl, hiW G (ad 6) ha ro hl, scW G (ha 0) (rg 0), scW G (ha 1) (rg 1), scW G (ha 2) (rg 2), scW G (ha 3) (rg 3), scW G (ha 4) (rg 4), scW G (ha 5) (rg 5), slW G S0, slW G S1] [1] [0, 2, 3, 4, 5, 6, 7, 8, 9, 10, 11, 12, 13, 14, 15] rfl (by decide)).symm ?_)
    refine V.icmp_eq (tgt := 762) E dL_law_156 (by decide) (fun _ => ?_) (fun h => absurd rfl h)
    refine V.widen (k := kc + 5) (n := ks + 155) (Nat.le_add_right _ _) (Nat.le_add_right _ _) ?_
    exact K hi sl sv mr mo mk mt mm me mw tx cl hl tl sp rd x y ur uo uk us ut uc um ue uq un_ zr zo zk zs zt zc zm ze zq zn_ ro rg hh S0 S1 (q)
  · obtain ⟨k_, v_, hk, hv_, e1, e2⟩ := okSet_s hb
    cases ho : ordN x k_ v_
    · refine V.aload_n E dL_law_128 rfl rfl ?_
      refine V.aload_n E dL_law_129 rfl rfl ?_
      refine V.iload_n E dL_law_130 rfl rfl ?_
      refine V.iconst (v := nI (1)) E dL_law_131 (by decide) ?_
      refine V.iaddN E  dL_law_132 ?_
      refine V.sld (v := nI (k_)) E S (by omega) (e1) dL_law_133 ?_
      refine V.aload_n E dL_law_134 rfl rfl ?_
      refine V.iload_n E dL_law_135 rfl rfl ?_
      refine V.iconst (v := nI (2)) E dL_law_136 (by decide) ?_
      refine V.iaddN E  dL_law_137 ?_
      refine V.sld (v := nI (v_)) E S (by omega) (e2) dL_law_138 ?_
      refine V.callV (C := RX4) E (c_X4_set_un G ad (slA S0) (slA S1) x k_ v_ (q_x) (hk) (hv_) (ho)) (bl [mdW G a (fla x) hi sl sv mr mo mk mt mm me mw tx cl hl tl sp rd, scW G (ad 2) y, vwW G (ad 3) ur uo uk us ut uc um ue uq un_, vwW G (ad 4) zr zo zk zs zt zc zm ze zq zn_, pdW G (ad 5) tx tl, hiW G (ad 6) ha ro hl, scW G (ha 0) (rg 0), scW G (ha 1) (rg 1), scW G (ha 2) (rg 2), scW G (ha 3) (rg 3), scW G (ha 4) (rg 4), scW G (ha 5) (rg 5), slW G S0, slW G S1]) [] 0 4 rfl rfl rfl gL_law_X4_set rfl ⟨rfl, hd_X4_set⟩ ⟨⟨Nat.le_of_ble_eq_true rfl, Nat.le_of_ble_eq_true rfl⟩, rmL hkc rfl, rmS hks rfl⟩ rfl (Nat.le_of_ble_eq_true rfl) rfl dL_law_139 (pBs (n := 16) [gsW G ad (slA S0) (slA S1), mdW G a (fla x) hi sl sv mr mo mk mt mm me mw tx cl hl tl sp rd, scW G (ad 1) x, scW G (ad 2) y, vwW G (ad 3) ur uo uk us ut uc um ue uq un_, vwW G (ad 4) zr zo zk zs zt zc zm ze zq zn_, pdW G (ad 5) tx tl, hiW G (ad 6) ha ro hl, scW G (ha 0) (rg 0), scW G (ha 1) (rg 1), scW G (ha 2) (rg 2), scW G (ha 3) (rg 3), scW G (ha 4) (rg 4), scW G (ha 5) (rg 5), slW G S0, slW G S1] [0, 2] [1, 3, 4, 5, 6, 7, 8, 9, 10, 11, 12, 13, 14, 15] rfl (by decide)) (kc' := kc) (ks' := ks) rfl rfl (rwI (ws' := (bl [gsW G ad (slA S0) (slA S1), mdW G a (fla x) hi sl sv mr mo mk mt mm me mw tx cl hl tl sp rd, scW G (ad 1) x, scW G (ad 2) y, vwW G (ad 3) ur uo uk us ut uc um ue uq un_, vwW G (ad 4) zr zo zk zs zt zc zm ze zq zn_, pdW G (ad 5) tx tl, hiW G (ad 6) ha ro hl, scW G (ha 0) (rg 0), scW G (ha 1) (rg 1), scW G (ha 2) (rg 2), scW G (ha 3) (rg 3), scW G (ha 4) (rg 4), scW G (ha 5) (rg 5), slW G S0, slW G S1])) (pBs (n := 16) [gsW G ad (slA S0) (slA S1), mdW G a (fla x) hi sl sv mr mo mk mt mm me mw tx cl hl tl sp rd, scW G (ad 1) x, scW G (ad 2) y, vwW G (ad 3) ur uo uk us ut uc um ue uq un_, vwW G (ad 4) zr zo zk zs zt zc zm ze zq zn_, pdW G (ad 5) tx tl, hiW G (ad 6) ha ro hl, scW G (ha 0) (rg 0), scW G (ha 1) (rg 1), scW G (ha 2) (rg 2), scW G (ha 3) (rg 3), scW G (ha 4) (rg 4), scW G (ha 5) (rg 5), slW G S0, slW G S1] [0, 2] [1, 3, 4, 5, 6, 7, 8, 9, 10, 11, 12, 13, 14, 15] rfl (by decide)).symm ?_)
      refine V.aload_n E dL_law_142 rfl rfl ?_
      refine V.aload_n E dL_law_143 rfl rfl ?_
      refine V.iload_n E dL_law_144 rfl rfl ?_
      refine V.iconst (v := nI (1)) E dL_law_145 (by decide) ?_
      refine V.iaddN E  dL_law_146 ?_
      refine V.sld (v := nI (k_)) E S (by omega) (e1) dL_law_147 ?_
      refine V.aload_n E dL_law_148 rfl rfl ?_
      refine V.iload_n E dL_law_149 rfl rfl ?_
      refine V.iconst (v := nI (2)) E dL_law_150 (by decide) ?_
      refine V.iaddN E  dL_law_151 ?_
      refine V.sld (v := nI (v_)) E S (by omega) (e2) dL_law_152 ?_
      refine V.callV (C := RX5) E (c_X5_set_un G a hi sl sv mr mo mk mt mm me mw tx cl hl tl sp rd x k_ v_ (q_x) (hk) (hv_) (ho)) (bl [gsW G ad (slA S0) (slA S1), scW G (ad 1) x, scW G (ad 2) y, vwW G (ad 3) ur uo uk us ut uc um ue uq un_, vwW G (ad 4) zr zo zk zs zt zc zm ze zq zn_, pdW G (ad 5) tx tl, hiW G (ad 6) ha ro hl, scW G (ha 0) (rg 0), scW G (ha 1) (rg 1), scW G (ha 2) (rg 2), scW G (ha 3) (rg 3), scW G (ha 4) (rg 4), scW G (ha 5) (rg 5), slW G S0, slW G S1]) [.int ((-5 : Int32))] 2 5 rfl rfl rfl gL_law_X5_set rfl ⟨rfl, hd_X5_set⟩ ⟨⟨Nat.le_of_ble_eq_true rfl, Nat.le_of_ble_eq_true rfl⟩, rmL hkc rfl, rmS hks rfl⟩ rfl (Nat.le_of_ble_eq_true rfl) rfl dL_law_153 (pBs (n := 16) [gsW G ad (slA S0) (slA S1), mdW G a (fla x) hi sl sv mr mo mk mt mm me mw tx cl hl tl sp rd, scW G (ad 1) x, scW G (ad 2) y, vwW G (ad 3) ur uo uk us ut uc um ue uq un_, vwW G (ad 4) zr zo zk zs zt zc zm ze zq zn_, pdW G (ad 5) tx tl, hiW G (ad 6) ha ro hl, scW G (ha 0) (rg 0), scW G (ha 1) (rg 1), scW G (ha 2) (rg 2), scW G (ha 3) (rg 3), scW G (ha 4) (rg 4), scW G (ha 5) (rg 5), slW G S0, slW G S1] [1] [0, 2, 3, 4, 5, 6, 7, 8, 9, 10, 11, 12, 13, 14, 15] rfl (by decide)) (kc' := kc) (ks' := ks) rfl rfl (rwI (ws' := (bl [gsW G ad (slA S0) (slA S1), mdW G a (fla x) hi sl sv mr mo mk mt mm me mw tx cl hl tl sp rd, scW G (ad 1) x, scW G (ad 2) y, vwW G (ad 3) ur uo uk us ut uc um ue uq un_, vwW G (ad 4) zr zo zk zs zt zc zm ze zq zn_, pdW G (ad 5) tx tl, hiW G (ad 6) ha ro hl, scW G (ha 0) (rg 0), scW G (ha 1) (rg 1), scW G (ha 2) (rg 2), scW G (ha 3) (rg 3), scW G (ha 4) (rg 4), scW G (ha 5) (rg 5), slW G S0, slW G S1])) (pBs (n := 16) [gsW G ad (slA S0) (slA S1), mdW G a (fla x) hi sl sv mr mo mk mt mm me mw tx cl hl tl sp rd, scW G (ad 1) x, scW G (ad 2) y, vwW G (ad 3) ur uo uk us ut uc um ue uq un_, vwW G (ad 4) zr zo zk zs zt zc zm ze zq zn_, pdW G (ad 5) tx tl, hiW G (ad 6) ha ro hl, scW G (ha 0) (rg 0), scW G (ha 1) (rg 1), scW G (ha 2) (rg 2), scW G (ha 3) (rg 3), scW G (ha 4) (rg 4), scW G (ha 5) (rg 5), slW G S0, slW G S1] [1] [0, 2, 3, 4, 5, 6, 7, 8, 9, 10, 11, 12, 13, 14, 15] rfl (by decide)).symm ?_)
      refine V.icmp_eq (tgt := 762) E dL_law_156 (by decide) (fun _ => ?_) (fun h => absurd rfl h)
      refine V.widen (k := kc + 5) (n := ks + 155) (Nat.le_add_right _ _) (Nat.le_add_right _ _) ?_
      exact K hi sl sv mr mo mk mt mm me mw tx cl hl tl sp rd x y ur uo uk us ut uc um ue uq un_ zr zo zk zs zt zc zm ze zq zn_ ro rg hh S0 S1 (q)
    · refine V.aload_n E dL_law_128 rfl rfl ?_
      refine V.aload_n E dL_law_129 rfl rfl ?_
      refine V.iload_n E dL_law_130 rfl rfl ?_
      refine V.iconst (v := nI (1)) E dL_law_131 (by decide) ?_
      refine V.iaddN E  dL_law_132 ?_
      refine V.sld (v := nI (k_)) E S (by omega) (e1) dL_law_133 ?_
      refine V.aload_n E dL_law_134 rfl rfl ?_
      refine V.iload_n E dL_law_135 rfl rfl ?_
      refine V.iconst (v := nI (2)) E dL_law_136 (by decide) ?_
      refine V.iaddN E  dL_law_137 ?_
      refine V.sld (v := nI (v_)) E S (by omega) (e2) dL_law_138 ?_
      refine V.callV (C := RX4) E (c_X4_set_ok G ad (slA S0) (slA S1) x ha rg ro hl k_ v_ (q_o) (q_l) (q_x) (hk) (hv_) (ho)) (bl [mdW G a (fla x) hi sl sv mr mo mk mt mm me mw tx cl hl tl sp rd, scW G (ad 2) y, vwW G (ad 3) ur uo uk us ut uc um ue uq un_, vwW G (ad 4) zr zo zk zs zt zc zm ze zq zn_, pdW G (ad 5) tx tl, slW G S0, slW G S1]) [] 0 4 rfl rfl rfl gL_law_X4_set rfl ⟨rfl, hd_X4_set⟩ ⟨⟨Nat.le_of_ble_eq_true rfl, Nat.le_of_ble_eq_true rfl⟩, rmL hkc rfl, rmS hks rfl⟩ rfl (Nat.le_of_ble_eq_true rfl) rfl dL_law_139 (pBs (n := 16) [gsW G ad (slA S0) (slA S1), mdW G a (fla x) hi sl sv mr mo mk mt mm me mw tx cl hl tl sp rd, scW G (ad 1) x, scW G (ad 2) y, vwW G (ad 3) ur uo uk us ut uc um ue uq un_, vwW G (ad 4) zr zo zk zs zt zc zm ze zq zn_, pdW G (ad 5) tx tl, hiW G (ad 6) ha ro hl, scW G (ha 0) (rg 0), scW G (ha 1) (rg 1), scW G (ha 2) (rg 2), scW G (ha 3) (rg 3), scW G (ha 4) (rg 4), scW G (ha 5) (rg 5), slW G S0, slW G S1] [0, 2, 7, 8, 9, 10, 11, 12, 13] [1, 3, 4, 5, 6, 14, 15] rfl (by decide)) (kc' := kc) (ks' := ks) rfl rfl (rwI (ws' := (bl [gsW G ad (slA S0) (slA S1), mdW G a (fla x) hi sl sv mr mo mk mt mm me mw tx cl hl tl sp rd, scW G (ad 1) (upN (scS x) k_ v_, x.2), scW G (ad 2) y, vwW G (ad 3) ur uo uk us ut uc um ue uq un_, vwW G (ad 4) zr zo zk zs zt zc zm ze zq zn_, pdW G (ad 5) tx tl, hiW G (ad 6) ha (onN ro hl) (hlN hl), scW G (ha 0) (rgu rg ((ro + hl) % 6) x 0), scW G (ha 1) (rgu rg ((ro + hl) % 6) x 1), scW G (ha 2) (rgu rg ((ro + hl) % 6) x 2), scW G (ha 3) (rgu rg ((ro + hl) % 6) x 3), scW G (ha 4) (rgu rg ((ro + hl) % 6) x 4), scW G (ha 5) (rgu rg ((ro + hl) % 6) x 5), slW G S0, slW G S1])) (pBs (n := 16) [gsW G ad (slA S0) (slA S1), mdW G a (fla x) hi sl sv mr mo mk mt mm me mw tx cl hl tl sp rd, scW G (ad 1) (upN (scS x) k_ v_, x.2), scW G (ad 2) y, vwW G (ad 3) ur uo uk us ut uc um ue uq un_, vwW G (ad 4) zr zo zk zs zt zc zm ze zq zn_, pdW G (ad 5) tx tl, hiW G (ad 6) ha (onN ro hl) (hlN hl), scW G (ha 0) (rgu rg ((ro + hl) % 6) x 0), scW G (ha 1) (rgu rg ((ro + hl) % 6) x 1), scW G (ha 2) (rgu rg ((ro + hl) % 6) x 2), scW G (ha 3) (rgu rg ((ro + hl) % 6) x 3), scW G (ha 4) (rgu rg ((ro + hl) % 6) x 4), scW G (ha 5) (rgu rg ((ro + hl) % 6) x 5), slW G S0, slW G S1] [0, 2, 7, 8, 9, 10, 11, 12, 13] [1, 3, 4, 5, 6, 14, 15] rfl (by decide)).symm ?_)
      refine V.aload_n E dL_law_142 rfl rfl ?_
      refine V.aload_n E dL_law_143 rfl rfl ?_
      refine V.iload_n E dL_law_144 rfl rfl ?_
      refine V.iconst (v := nI (1)) E dL_law_145 (by decide) ?_
      refine V.iaddN E  dL_law_146 ?_
      refine V.sld (v := nI (k_)) E S (by omega) (e1) dL_law_147 ?_
      refine V.aload_n E dL_law_148 rfl rfl ?_
      refine V.iload_n E dL_law_149 rfl rfl ?_
      refine V.iconst (v := nI (2)) E dL_law_150 (by decide) ?_
      refine V.iaddN E  dL_law_151 ?_
      refine V.sld (v := nI (v_)) E S (by omega) (e2) dL_law_152 ?_
      refine V.callV (C := RX5) E (c_X5_set_ok G a hi sl sv mr mo mk mt mm me mw tx cl hl tl sp rd x hh k_ v_ (q_x) (q_l) (q_H) (hk) (hv_) (ho)) (bl [gsW G ad (slA S0) (slA S1), scW G (ad 1) (upN (scS x) k_ v_, x.2), scW G (ad 2) y, vwW G (ad 3) ur uo uk us ut uc um ue uq un_, vwW G (ad 4) zr zo zk zs zt zc zm ze zq zn_, pdW G (ad 5) tx tl, hiW G (ad 6) ha (onN ro hl) (hlN hl), scW G (ha 0) (rgu rg ((ro + hl) % 6) x 0), scW G (ha 1) (rgu rg ((ro + hl) % 6) x 1), scW G (ha 2) (rgu rg ((ro + hl) % 6) x 2), scW G (ha 3) (rgu rg ((ro + hl) % 6) x 3), scW G (ha 4) (rgu rg ((ro + hl) % 6) x 4), scW G (ha 5) (rgu rg ((ro + hl) % 6) x 5), slW G S0, slW G S1]) [.int (nI (scS x k_))] 2 5 rfl rfl rfl gL_law_X5_set rfl ⟨rfl, hd_X5_set⟩ ⟨⟨Nat.le_of_ble_eq_true rfl, Nat.le_of_ble_eq_true rfl⟩, rmL hkc rfl, rmS hks rfl⟩ rfl (Nat.le_of_ble_eq_true rfl) rfl dL_law_153 (pBs (n := 16) [gsW G ad (slA S0) (slA S1), mdW G a (fla x) hi sl sv mr mo mk mt mm me mw tx cl hl tl sp rd, scW G (ad 1) (upN (scS x) k_ v_, x.2), scW G (ad 2) y, vwW G (ad 3) ur uo uk us ut uc um ue uq un_, vwW G (ad 4) zr zo zk zs zt zc zm ze zq zn_, pdW G (ad 5) tx tl, hiW G (ad 6) ha (onN ro hl) (hlN hl), scW G (ha 0) (rgu rg ((ro + hl) % 6) x 0), scW G (ha 1) (rgu rg ((ro + hl) % 6) x 1), scW G (ha 2) (rgu rg ((ro + hl) % 6) x 2), scW G (ha 3) (rgu rg ((ro + hl) % 6) x 3), scW G (ha 4) (rgu rg ((ro + hl) % 6) x 4), scW G (ha 5) (rgu rg ((ro + hl) % 6) x 5), slW G S0, slW G S1] [1] [0, 2, 3, 4, 5, 6, 7, 8, 9, 10, 11, 12, 13, 14, 15] rfl (by decide)) (kc' := kc) (ks' := ks) rfl rfl (rxI (ws' := fun (g_153 : Nat → Nat) => (bl [gsW G ad (slA S0) (slA S1), mdW G a (fla (upN (scS x) k_ v_, x.2)) g_153 sl sv mr mo mk mt mm me mw tx cl (hlN hl) tl sp rd, scW G (ad 1) (upN (scS x) k_ v_, x.2), scW G (ad 2) y, vwW G (ad 3) ur uo uk us ut uc um ue uq un_, vwW G (ad 4) zr zo zk zs zt zc zm ze zq zn_, pdW G (ad 5) tx tl, hiW G (ad 6) ha (onN ro hl) (hlN hl), scW G (ha 0) (rgu rg ((ro + hl) % 6) x 0), scW G (ha 1) (rgu rg ((ro + hl) % 6) x 1), scW G (ha 2) (rgu rg ((ro + hl) % 6) x 2), scW G (ha 3) (rgu rg ((ro + hl) % 6) x 3), scW G (ha 4) (rgu rg ((ro + hl) % 6) x 4), scW G (ha 5) (rgu rg ((ro + hl) % 6) x 5), slW G S0, slW G S1])) (fun g_153 => (pBs (n := 16) [gsW G ad (slA S0) (slA S1), mdW G a (fla (upN (scS x) k_ v_, x.2)) g_153 sl sv mr mo mk mt mm me mw tx cl (hlN hl) tl sp rd, scW G (ad 1) (upN (scS x) k_ v_, x.2), scW G (ad 2) y, vwW G (ad 3) ur uo uk us ut uc um ue uq un_, vwW G (ad 4) zr zo zk zs zt zc zm ze zq zn_, pdW G (ad 5) tx tl, hiW G (ad 6) ha (onN ro hl) (hlN hl), scW G (ha 0) (rgu rg ((ro + hl) % 6) x 0), scW G (ha 1) (rgu rg ((ro + hl) % 6) x 1), scW G (ha 2) (rgu rg ((ro + hl) % 6) x 2), scW G (ha 3) (rgu rg ((ro + hl) % 6) x 3), scW G (ha 4) (rgu rg ((ro + hl) % 6) x 4), scW G (ha 5) (rgu rg ((ro + hl) % 6) x 5), slW G S0, slW G S1] [1] [0, 2, 3, 4, 5, 6, 7, 8, 9, 10, 11, 12, 13, 14, 15] rfl (by decide)).symm) (fun g_153 hf_153 => ?_))
      refine V.icmp_eq (tgt := 762) E dL_law_156 (by decide) (fun _ => ?_) (fun h => absurd rfl h)
      refine V.widen (k := kc + 5) (n := ks + 155) (Nat.le_add_right _ _) (Nat.le_add_right _ _) ?_
      exact K g_153 sl sv mr mo mk mt mm me mw tx cl (hlN hl) tl sp rd (upN (scS x) k_ v_, x.2) y ur uo uk us ut uc um ue uq un_ zr zo zk zs zt zc zm ze zq zn_ (onN ro hl) (rgu rg ((ro + hl) % 6) x) (hhN x hl hh) S0 S1 (LI.rem q (q_x.set hv_ ho) hf_153)
set_option maxRecDepth 100000 in
set_option maxHeartbeats 16000000 in
theorem lw_screen {G : VC} {A : Nat → Prop} {X : VX} (E : Ev G A X cL_law RL wsL_law 4) {b L : Nat} {sc : Nat → Int32} (S : SX A X b L sc) {i : Nat} (hi_ : i + 4 < L) {kc ks : Nat} (hkc : kc + 5 ≤ 600000) (hks : ks + 155 ≤ 7302250) {a : Nat → Nat} {ad ha : AD} (hi : Nat → Nat) (sl : Nat → Nat) (sv : Nat → Nat) (mr : Nat → Nat) (mo : Nat → Nat) (mk : Nat → Nat) (mt : Nat → Nat) (mm : Nat → Nat) (me : Nat → Nat) (mw : Nat → Nat) (tx : Nat → Nat) (cl : Nat → Int32) (hl : Nat) (tl : Nat) (sp : Nat) (rd : Nat) (x : SC) (y : SC) (ur : Nat → Nat) (uo : Nat → Nat) (uk : Nat → Nat) (us : Nat → Nat) (ut : Nat → Nat) (uc : Nat → Nat) (um : Nat → Nat) (ue : Nat → Nat) (uq : Nat → Nat) (un_ : Nat) (zr : Nat → Nat) (zo : Nat → Nat) (zk : Nat → Nat) (zs : Nat → Nat) (zt : Nat → Nat) (zc : Nat → Nat) (zm : Nat → Nat) (ze : Nat → Nat) (zq : Nat → Nat) (zn_ : Nat) (ro : Nat) (rg : Nat → SC) (hh : Nat → SC) (S0 : SLT) (S1 : SLT) (q : LI x hl tl ro rg hh hi sl sv tx S0 S1) (K : LK G A X (kc + 5) (ks + 155) b i a ad ha) : V G A X room_1 (bl [gsW G ad (slA S0) (slA S1), mdW G a (fla x) hi sl sv mr mo mk mt mm me mw tx cl hl tl sp rd, scW G (ad 1) x, scW G (ad 2) y, vwW G (ad 3) ur uo uk us ut uc um ue uq un_, vwW G (ad 4) zr zo zk zs zt zc zm ze zq zn_, pdW G (ad 5) tx tl, hiW G (ad 6) ha ro hl, scW G (ha 0) (rg 0), scW G (ha 1) (rg 1), scW G (ha 2) (rg 2), scW G (ha 3) (rg 3), scW G (ha 4) (rg 4), scW G (ha 5) (rg 5), slW G S0, slW G S1]) kc ks 161 [some (.ref b), some (.ref (ad 0 0)), some (.ref (a 0)), some (.int (nI (i)))] [] := by
  obtain ⟨q_x, q_l, q_o, q_r, q_R, q_H, q_t, q_0, q_1⟩ := id q
  by_cases hb : okI 4096 (sc (i + 1)) = false
  · refine V.aload_n E dL_law_161 rfl rfl ?_
    refine V.aload_n E dL_law_162 rfl rfl ?_
    refine V.iload_n E dL_law_163 rfl rfl ?_
    refine V.iconst (v := nI (1)) E dL_law_164 (by decide) ?_
    refine V.iaddN E  dL_law_165 ?_
    refine V.sld (v := sc (i + 1)) E S (by omega) (rfl) dL_law_166 ?_
    refine V.callV (C := RX4) E (c_X4_screen_bad G ad (slA S0) (slA S1) x (sc (i + 1)) (hb)) (bl [mdW G a (fla x) hi sl sv mr mo mk mt mm me mw tx cl hl tl sp rd, scW G (ad 2) y, vwW G (ad 3) ur uo uk us ut uc um ue uq un_, vwW G (ad 4) zr zo zk zs zt zc zm ze zq zn_, pdW G (ad 5) tx tl, hiW G (ad 6) ha ro hl, scW G (ha 0) (rg 0), scW G (ha 1) (rg 1), scW G (ha 2) (rg 2), scW G (ha 3) (rg 3), scW G (ha 4) (rg 4), scW G (ha 5) (rg 5), slW G S0, slW G S1]) [] 0 4 rfl rfl rfl gL_law_X4_screen rfl ⟨rfl, hd_X4_screen⟩ ⟨⟨Nat.le_of_ble_eq_true rfl, Nat.le_of_ble_eq_true rfl⟩, rmL hkc rfl, rmS hks rfl⟩ rfl (Nat.le_of_ble_eq_true rfl) rfl dL_law_167 (pBs (n := 16) [gsW G ad (slA S0) (slA S1), mdW G a (fla x) hi sl sv mr mo mk mt mm me mw tx cl hl tl sp rd, scW G (ad 1) x, scW G (ad 2) y, vwW G (ad 3) ur uo uk us ut uc um ue uq un_, vwW G (ad 4) zr zo zk zs zt zc zm ze zq zn_, pdW G (ad 5) tx tl, hiW G (ad 6) ha ro hl, scW G (ha 0) (rg 0), scW G (ha 1) (rg 1), scW G (ha 2) (rg 2), scW G (ha 3) (rg 3), scW G (ha 4) (rg 4), scW G (ha 5) (rg 5), slW G S0, slW G S1] [0, 2] [1, 3, 4, 5, 6, 7, 8, 9, 10, 11, 12, 13, 14, 15] rfl (by decide)) (kc' := kc) (ks' := ks) rfl rfl (rwI (ws' := (bl [gsW G ad (slA S0) (slA S1), mdW G a (fla x) hi sl sv mr mo mk mt mm me mw tx cl hl tl sp rd, scW G (ad 1) x, scW G (ad 2) y, vwW G (ad 3) ur uo uk us ut uc um ue uq un_, vwW G (ad 4) zr zo zk zs zt zc zm ze zq zn_, pdW G (ad 5) tx tl, hiW G (ad 6) ha ro hl, scW G (ha 0) (rg 0), scW G (ha 1) (rg 1), scW G (ha 2) (rg 2), scW G (ha 3) (rg 3), scW G (ha 4) (rg 4), scW G (ha 5) (rg 5), slW G S0, slW G S1])) (pBs (n := 16) [gsW G ad (slA S0) (slA S1), mdW G a (fla x) hi sl sv mr mo mk mt mm me mw tx cl hl tl sp rd, scW G (ad 1) x, scW G (ad 2) y, vwW G (ad 3) ur uo uk us ut uc um ue uq un_, vwW G (ad 4) zr zo zk zs zt zc zm ze zq zn_, pdW G (ad 5) tx tl, hiW G (ad 6) ha ro hl, scW G (ha 0) (rg 0), scW G (ha 1) (rg 1), scW G (ha 2) (rg 2), scW G (ha 3) (rg 3), scW G (ha 4) (rg 4), scW G (ha 5) (rg 5), slW G S0, slW G S1] [0, 2] [1, 3, 4, 5, 6, 7, 8, 9, 10, 11, 12, 13, 14, 15] rfl (by decide)).symm ?_)
    refine V.aload_n E dL_law_170 rfl rfl ?_
    refine V.aload_n E dL_law_171 rfl rfl ?_
    refine V.iload_n E dL_law_172 rfl rfl ?_
    refine V.iconst (v := nI (1)) E dL_law_173 (by decide) ?_
    refine V.iaddN E  dL_law_174 ?_
    refine V.sld (v := sc (i + 1)) E S (by omega) (rfl) dL_law_175 ?_
    refine V.callV (C := RX5) E (c_X5_screen_bad G a hi sl sv mr mo mk mt mm me mw tx cl hl tl sp rd x (sc (i + 1)) (hb)) (bl [gsW G ad (slA S0) (slA S1), scW G (ad 1) x, scW G (ad 2) y, vwW G (ad 3) ur uo uk us ut uc um ue uq un_, vwW G (ad 4) zr zo zk zs zt zc zm ze zq zn_, pdW G (ad 5) tx tl, hiW G (ad 6) ha ro hl, scW G (ha 0) (rg 0), scW G (ha 1) (rg 1), scW G (ha 2) (rg 2), scW G (ha 3) (rg 3), scW G (ha 4) (rg 4), scW G (ha 5) (rg 5), slW G S0, slW G S1]) [.int ((-2 : Int32))] 2 5 rfl rfl rfl gL_law_X5_screen rfl ⟨rfl, hd_X5_screen⟩ ⟨⟨Nat.le_of_ble_eq_true rfl, Nat.le_of_ble_eq_true rfl⟩, rmL hkc rfl, rmS hks rfl⟩ rfl (Nat.le_of_ble_eq_true rfl) rfl dL_law_176 (pBs (n := 16) [gsW G ad (slA S0) (slA S1), mdW G a (fla x) hi sl sv mr mo mk mt mm me mw tx cl hl tl sp rd, scW G (ad 1) x, scW G (ad 2) y, vwW G (ad 3) ur uo uk us ut uc um ue uq un_, vwW G (ad 4) zr zo zk zs zt zc zm ze zq zn_, pdW G (ad 5) tx tl, hiW G (ad 6) ha ro hl, scW G (ha 0) (rg 0), scW G (ha 1) (rg 1), scW G (ha 2) (rg 2), scW G (ha 3) (rg 3), scW G (ha 4) (rg 4), scW G (ha 5) (rg 5), slW G S0, slW G S1] [1] [0, 2, 3, 4, 5, 6, 7, 8, 9, 10, 11, 12, 13, 14, 15] rfl (by decide)) (kc' := kc) (ks' := ks) rfl rfl (rwI (ws' := (bl [gsW G ad (slA S0) (slA S1), mdW G a (fla x) hi sl sv mr mo mk mt mm me mw tx cl hl tl sp rd, scW G (ad 1) x, scW G (ad 2) y, vwW G (ad 3) ur uo uk us ut uc um ue uq un_, vwW G (ad 4) zr zo zk zs zt zc zm ze zq zn_, pdW G (ad 5) tx tl, hiW G (ad 6) ha ro hl, scW G (ha 0) (rg 0), scW G (ha 1) (rg 1), scW G (ha 2) (rg 2), scW G (ha 3) (rg 3), scW G (ha 4) (rg 4), scW G (ha 5) (rg 5), slW G S0, slW G S1])) (pBs (n := 16) [gsW G ad (slA S0) (slA S1), mdW G a (fla x) hi sl sv mr mo mk mt mm me mw tx cl hl tl sp rd, scW G (ad 1) x, scW G (ad 2) y, vwW G (ad 3) ur uo uk us ut uc um ue uq un_, vwW G (ad 4) zr zo zk zs zt zc zm ze zq zn_, pdW G (ad 5) tx tl, hiW G (ad 6) ha ro hl, scW G (ha 0) (rg 0), scW G (ha 1) (rg 1), scW G (ha 2) (rg 2), scW G (ha 3) (rg 3), scW G (ha 4) (rg 4), scW G (ha 5) (rg 5), slW G S0, slW G S1] [1] [0, 2, 3, 4, 5, 6, 7, 8, 9, 10, 11, 12, 13, 14, 15] rfl (by decide)).symm ?_)
    refine V.icmp_eq (tgt := 762) E dL_law_179 (by decide) (fun _ => ?_) (fun h => absurd rfl h)
    refine V.widen (k := kc + 5) (n := ks + 155) (Nat.le_add_right _ _) (Nat.le_add_right _ _) ?_
    exact K hi sl sv mr mo mk mt mm me mw tx cl hl tl sp rd x y ur uo uk us ut uc um ue uq un_ zr zo zk zs zt zc zm ze zq zn_ ro rg hh S0 S1 (q)
  · obtain ⟨c_, hc, e1⟩ := okI_s hb (by decide)
    refine V.aload_n E dL_law_161 rfl rfl ?_
    refine V.aload_n E dL_law_162 rfl rfl ?_
    refine V.iload_n E dL_law_163 rfl rfl ?_
    refine V.iconst (v := nI (1)) E dL_law_164 (by decide) ?_
    refine V.iaddN E  dL_law_165 ?_
    refine V.sld (v := nI (c_)) E S (by omega) (e1) dL_law_166 ?_
    refine V.callV (C := RX4) E (c_X4_screen_ok G ad (slA S0) (slA S1) x ha rg ro hl c_ (q_o) (q_l) (q_x) (hc)) (bl [mdW G a (fla x) hi sl sv mr mo mk mt mm me mw tx cl hl tl sp rd, scW G (ad 2) y, vwW G (ad 3) ur uo uk us ut uc um ue uq un_, vwW G (ad 4) zr zo zk zs zt zc zm ze zq zn_, pdW G (ad 5) tx tl, slW G S0, slW G S1]) [] 0 4 rfl rfl rfl gL_law_X4_screen rfl ⟨rfl, hd_X4_screen⟩ ⟨⟨Nat.le_of_ble_eq_true rfl, Nat.le_of_ble_eq_true rfl⟩, rmL hkc rfl, rmS hks rfl⟩ rfl (Nat.le_of_ble_eq_true rfl) rfl dL_law_167 (pBs (n := 16) [gsW G ad (slA S0) (slA S1), mdW G a (fla x) hi sl sv mr mo mk mt mm me mw tx cl hl tl sp rd, scW G (ad 1) x, scW G (ad 2) y, vwW G (ad 3) ur uo uk us ut uc um ue uq un_, vwW G (ad 4) zr zo zk zs zt zc zm ze zq zn_, pdW G (ad 5) tx tl, hiW G (ad 6) ha ro hl, scW G (ha 0) (rg 0), scW G (ha 1) (rg 1), scW G (ha 2) (rg 2), scW G (ha 3) (rg 3), scW G (ha 4) (rg 4), scW G (ha 5) (rg 5), slW G S0, slW G S1] [0, 2, 7, 8, 9, 10, 11, 12, 13] [1, 3, 4, 5, 6, 14, 15] rfl (by decide)) (kc' := kc) (ks' := ks) rfl rfl (rwI (ws' := (bl [gsW G ad (slA S0) (slA S1), mdW G a (fla x) hi sl sv mr mo mk mt mm me mw tx cl hl tl sp rd, scW G (ad 1) (scS x, scF x, scB x, scG x, c_), scW G (ad 2) y, vwW G (ad 3) ur uo uk us ut uc um ue uq un_, vwW G (ad 4) zr zo zk zs zt zc zm ze zq zn_, pdW G (ad 5) tx tl, hiW G (ad 6) ha (onN ro hl) (hlN hl), scW G (ha 0) (rgu rg ((ro + hl) % 6) x 0), scW G (ha 1) (rgu rg ((ro + hl) % 6) x 1), scW G (ha 2) (rgu rg ((ro + hl) % 6) x 2), scW G (ha 3) (rgu rg ((ro + hl) % 6) x 3), scW G (ha 4) (rgu rg ((ro + hl) % 6) x 4), scW G (ha 5) (rgu rg ((ro + hl) % 6) x 5), slW G S0, slW G S1])) (pBs (n := 16) [gsW G ad (slA S0) (slA S1), mdW G a (fla x) hi sl sv mr mo mk mt mm me mw tx cl hl tl sp rd, scW G (ad 1) (scS x, scF x, scB x, scG x, c_), scW G (ad 2) y, vwW G (ad 3) ur uo uk us ut uc um ue uq un_, vwW G (ad 4) zr zo zk zs zt zc zm ze zq zn_, pdW G (ad 5) tx tl, hiW G (ad 6) ha (onN ro hl) (hlN hl), scW G (ha 0) (rgu rg ((ro + hl) % 6) x 0), scW G (ha 1) (rgu rg ((ro + hl) % 6) x 1), scW G (ha 2) (rgu rg ((ro + hl) % 6) x 2), scW G (ha 3) (rgu rg ((ro + hl) % 6) x 3), scW G (ha 4) (rgu rg ((ro + hl) % 6) x 4), scW G (ha 5) (rgu rg ((ro + hl) % 6) x 5), slW G S0, slW G S1] [0, 2, 7, 8, 9, 10, 11, 12, 13] [1, 3, 4, 5, 6, 14, 15] rfl (by decide)).symm ?_)
    refine V.aload_n E dL_law_170 rfl rfl ?_
    refine V.aload_n E dL_law_171 rfl rfl ?_
    refine V.iload_n E dL_law_172 rfl rfl ?_
    refine V.iconst (v := nI (1)) E dL_law_173 (by decide) ?_
    refine V.iaddN E  dL_law_174 ?_
    refine V.sld (v := nI (c_)) E S (by omega) (e1) dL_law_175 ?_
    refine V.callV (C := RX5) E (c_X5_screen_ok G a hi sl sv mr mo mk mt mm me mw tx cl hl tl sp rd x hh c_ (q_l) (q_H) (hc)) (bl [gsW G ad (slA S0) (slA S1), scW G (ad 1) (scS x, scF x, scB x, scG x, c_), scW G (ad 2) y, vwW G (ad 3) ur uo uk us ut uc um ue uq un_, vwW G (ad 4) zr zo zk zs zt zc zm ze zq zn_, pdW G (ad 5) tx tl, hiW G (ad 6) ha (onN ro hl) (hlN hl), scW G (ha 0) (rgu rg ((ro + hl) % 6) x 0), scW G (ha 1) (rgu rg ((ro + hl) % 6) x 1), scW G (ha 2) (rgu rg ((ro + hl) % 6) x 2), scW G (ha 3) (rgu rg ((ro + hl) % 6) x 3), scW G (ha 4) (rgu rg ((ro + hl) % 6) x 4), scW G (ha 5) (rgu rg ((ro + hl) % 6) x 5), slW G S0, slW G S1]) [.int (nI (scC x))] 2 5 rfl rfl rfl gL_law_X5_screen rfl ⟨rfl, hd_X5_screen⟩ ⟨⟨Nat.le_of_ble_eq_true rfl, Nat.le_of_ble_eq_true rfl⟩, rmL hkc rfl, rmS hks rfl⟩ rfl (Nat.le_of_ble_eq_true rfl) rfl dL_law_176 (pBs (n := 16) [gsW G ad (slA S0) (slA S1), mdW G a (fla x) hi sl sv mr mo mk mt mm me mw tx cl hl tl sp rd, scW G (ad 1) (scS x, scF x, scB x, scG x, c_), scW G (ad 2) y, vwW G (ad 3) ur uo uk us ut uc um ue uq un_, vwW G (ad 4) zr zo zk zs zt zc zm ze zq zn_, pdW G (ad 5) tx tl, hiW G (ad 6) ha (onN ro hl) (hlN hl), scW G (ha 0) (rgu rg ((ro + hl) % 6) x 0), scW G (ha 1) (rgu rg ((ro + hl) % 6) x 1), scW G (ha 2) (rgu rg ((ro + hl) % 6) x 2), scW G (ha 3) (rgu rg ((ro + hl) % 6) x 3), scW G (ha 4) (rgu rg ((ro + hl) % 6) x 4), scW G (ha 5) (rgu rg ((ro + hl) % 6) x 5), slW G S0, slW G S1] [1] [0, 2, 3, 4, 5, 6, 7, 8, 9, 10, 11, 12, 13, 14, 15] rfl (by decide)) (kc' := kc) (ks' := ks) rfl rfl (rxI (ws' := fun (g_176 : Nat → Nat) => (bl [gsW G ad (slA S0) (slA S1), mdW G a (fla (scS x, scF x, scB x, scG x, c_)) g_176 sl sv mr mo mk mt mm me mw tx cl (hlN hl) tl sp rd, scW G (ad 1) (scS x, scF x, scB x, scG x, c_), scW G (ad 2) y, vwW G (ad 3) ur uo uk us ut uc um ue uq un_, vwW G (ad 4) zr zo zk zs zt zc zm ze zq zn_, pdW G (ad 5) tx tl, hiW G (ad 6) ha (onN ro hl) (hlN hl), scW G (ha 0) (rgu rg ((ro + hl) % 6) x 0), scW G (ha 1) (rgu rg ((ro + hl) % 6) x 1), scW G (ha 2) (rgu rg ((ro + hl) % 6) x 2), scW G (ha 3) (rgu rg ((ro + hl) % 6) x 3), scW G (ha 4) (rgu rg ((ro + hl) % 6) x 4), scW G (ha 5) (rgu rg ((ro + hl) % 6) x 5), slW G S0, slW G S1])) (fun g_176 => (pBs (n := 16) [gsW G ad (slA S0) (slA S1), mdW G a (fla (scS x, scF x, scB x, scG x, c_)) g_176 sl sv mr mo mk mt mm me mw tx cl (hlN hl) tl sp rd, scW G (ad 1) (scS x, scF x, scB x, scG x, c_), scW G (ad 2) y, vwW G (ad 3) ur uo uk us ut uc um ue uq un_, vwW G (ad 4) zr zo zk zs zt zc zm ze zq zn_, pdW G (ad 5) tx tl, hiW G (ad 6) ha (onN ro hl) (hlN hl), scW G (ha 0) (rgu rg ((ro + hl) % 6) x 0), scW G (ha 1) (rgu rg ((ro + hl) % 6) x 1), scW G (ha 2) (rgu rg ((ro + hl) % 6) x 2), scW G (ha 3) (rgu rg ((ro + hl) % 6) x 3), scW G (ha 4) (rgu rg ((ro + hl) % 6) x 4), scW G (ha 5) (rgu rg ((ro + hl) % 6) x 5), slW G S0, slW G S1] [1] [0, 2, 3, 4, 5, 6, 7, 8, 9, 10, 11, 12, 13, 14, 15] rfl (by decide)).symm) (fun g_176 hf_176 => ?_))
    refine V.icmp_eq (tgt := 762) E dL_law_179 (by decide) (fun _ => ?_) (fun h => absurd rfl h)
    refine V.widen (k := kc + 5) (n := ks + 155) (Nat.le_add_right _ _) (Nat.le_add_right _ _) ?_
    exact K g_176 sl sv mr mo mk mt mm me mw tx cl (hlN hl) tl sp rd (scS x, scF x, scB x, scG x, c_) y ur uo uk us ut uc um ue uq un_ zr zo zk zs zt zc zm ze zq zn_ (onN ro hl) (rgu rg ((ro + hl) % 6) x) (hhN x hl hh) S0 S1 (LI.rem q (q_x.scr hc) hf_176)
set_option maxRecDepth 100000 in
set_option maxHeartbeats 16000000 in
theorem lw_paint {G : VC} {A : Nat → Prop} {X : VX} (E : Ev G A X cL_law RL wsL_law 4) {b L : Nat} {sc : Nat → Int32} (S : SX A X b L sc) {i : Nat} (hi_ : i + 4 < L) {kc ks : Nat} (hkc : kc + 5 ≤ 600000) (hks : ks + 155 ≤ 7302250) {a : Nat → Nat} {ad ha : AD} (hi : Nat → Nat) (sl : Nat → Nat) (sv : Nat → Nat) (mr : Nat → Nat) (mo : Nat → Nat) (mk : Nat → Nat) (mt : Nat → Nat) (mm : Nat → Nat) (me : Nat → Nat) (mw : Nat → Nat) (tx : Nat → Nat) (cl : Nat → Int32) (hl : Nat) (tl : Nat) (sp : Nat) (rd : Nat) (x : SC) (y : SC) (ur : Nat → Nat) (uo : Nat → Nat) (uk : Nat → Nat) (us : Nat → Nat) (ut : Nat → Nat) (uc : Nat → Nat) (um : Nat → Nat) (ue : Nat → Nat) (uq : Nat → Nat) (un_ : Nat) (zr : Nat → Nat) (zo : Nat → Nat) (zk : Nat → Nat) (zs : Nat → Nat) (zt : Nat → Nat) (zc : Nat → Nat) (zm : Nat → Nat) (ze : Nat → Nat) (zq : Nat → Nat) (zn_ : Nat) (ro : Nat) (rg : Nat → SC) (hh : Nat → SC) (S0 : SLT) (S1 : SLT) (q : LI x hl tl ro rg hh hi sl sv tx S0 S1) (K : LK G A X (kc + 5) (ks + 155) b i a ad ha) : V G A X room_1 (bl [gsW G ad (slA S0) (slA S1), mdW G a (fla x) hi sl sv mr mo mk mt mm me mw tx cl hl tl sp rd, scW G (ad 1) x, scW G (ad 2) y, vwW G (ad 3) ur uo uk us ut uc um ue uq un_, vwW G (ad 4) zr zo zk zs zt zc zm ze zq zn_, pdW G (ad 5) tx tl, hiW G (ad 6) ha ro hl, scW G (ha 0) (rg 0), scW G (ha 1) (rg 1), scW G (ha 2) (rg 2), scW G (ha 3) (rg 3), scW G (ha 4) (rg 4), scW G (ha 5) (rg 5), slW G S0, slW G S1]) kc ks 184 [some (.ref b), some (.ref (ad 0 0)), some (.ref (a 0)), some (.int (nI (i)))] [] := by
  obtain ⟨q_x, q_l, q_o, q_r, q_R, q_H, q_t, q_0, q_1⟩ := id q
  by_cases hz : sc (i + 1) = 0
  · by_cases hb : okI 48 (sc (i + 2)) = false
    · refine V.aload_n E dL_law_184 rfl rfl ?_
      refine V.aload_n E dL_law_185 rfl rfl ?_
      refine V.iload_n E dL_law_186 rfl rfl ?_
      refine V.iconst (v := nI (1)) E dL_law_187 (by decide) ?_
      refine V.iaddN E  dL_law_188 ?_
      refine V.sld (v := sc (i + 1)) E S (by omega) (rfl) dL_law_189 ?_
      refine V.if_eq (tgt := 197) E dL_law_190 (by decide) (fun _ => ?_) (fun h => absurd hz h)
      refine V.iconst (v := nI (bN false)) E dL_law_197 (by decide) ?_
      refine V.aload_n E dL_law_198 rfl rfl ?_
      refine V.iload_n E dL_law_199 rfl rfl ?_
      refine V.iconst (v := nI (2)) E dL_law_200 (by decide) ?_
      refine V.iaddN E  dL_law_201 ?_
      refine V.sld (v := sc (i + 2)) E S (by omega) (rfl) dL_law_202 ?_
      refine V.aload_n E dL_law_203 rfl rfl ?_
      refine V.iload_n E dL_law_204 rfl rfl ?_
      refine V.iconst (v := nI (3)) E dL_law_205 (by decide) ?_
      refine V.iaddN E  dL_law_206 ?_
      refine V.sld (v := sc (i + 3)) E S (by omega) (rfl) dL_law_207 ?_
      refine V.callV (C := RX4) E (c_X4_paint_bad G ad (slA S0) (slA S1) x (bN false) (sc (i + 2)) (sc (i + 3)) (hb)) (bl [mdW G a (fla x) hi sl sv mr mo mk mt mm me mw tx cl hl tl sp rd, scW G (ad 2) y, vwW G (ad 3) ur uo uk us ut uc um ue uq un_, vwW G (ad 4) zr zo zk zs zt zc zm ze zq zn_, pdW G (ad 5) tx tl, hiW G (ad 6) ha ro hl, scW G (ha 0) (rg 0), scW G (ha 1) (rg 1), scW G (ha 2) (rg 2), scW G (ha 3) (rg 3), scW G (ha 4) (rg 4), scW G (ha 5) (rg 5), slW G S0, slW G S1]) [] 0 4 rfl rfl rfl gL_law_X4_paint rfl ⟨rfl, hd_X4_paint⟩ ⟨⟨Nat.le_of_ble_eq_true rfl, Nat.le_of_ble_eq_true rfl⟩, rmL hkc rfl, rmS hks rfl⟩ rfl (Nat.le_of_ble_eq_true rfl) rfl dL_law_208 (pBs (n := 16) [gsW G ad (slA S0) (slA S1), mdW G a (fla x) hi sl sv mr mo mk mt mm me mw tx cl hl tl sp rd, scW G (ad 1) x, scW G (ad 2) y, vwW G (ad 3) ur uo uk us ut uc um ue uq un_, vwW G (ad 4) zr zo zk zs zt zc zm ze zq zn_, pdW G (ad 5) tx tl, hiW G (ad 6) ha ro hl, scW G (ha 0) (rg 0), scW G (ha 1) (rg 1), scW G (ha 2) (rg 2), scW G (ha 3) (rg 3), scW G (ha 4) (rg 4), scW G (ha 5) (rg 5), slW G S0, slW G S1] [0, 2] [1, 3, 4, 5, 6, 7, 8, 9, 10, 11, 12, 13, 14, 15] rfl (by decide)) (kc' := kc) (ks' := ks) rfl rfl (rwI (ws' := (bl [gsW G ad (slA S0) (slA S1), mdW G a (fla x) hi sl sv mr mo mk mt mm me mw tx cl hl tl sp rd, scW G (ad 1) x, scW G (ad 2) y, vwW G (ad 3) ur uo uk us ut uc um ue uq un_, vwW G (ad 4) zr zo zk zs zt zc zm ze zq zn_, pdW G (ad 5) tx tl, hiW G (ad 6) ha ro hl, scW G (ha 0) (rg 0), scW G (ha 1) (rg 1), scW G (ha 2) (rg 2), scW G (ha 3) (rg 3), scW G (ha 4) (rg 4), scW G (ha 5) (rg 5), slW G S0, slW G S1])) (pBs (n := 16) [gsW G ad (slA S0) (slA S1), mdW G a (fla x) hi sl sv mr mo mk mt mm me mw tx cl hl tl sp rd, scW G (ad 1) x, scW G (ad 2) y, vwW G (ad 3) ur uo uk us ut uc um ue uq un_, vwW G (ad 4) zr zo zk zs zt zc zm ze zq zn_, pdW G (ad 5) tx tl, hiW G (ad 6) ha ro hl, scW G (ha 0) (rg 0), scW G (ha 1) (rg 1), scW G (ha 2) (rg 2), scW G (ha 3) (rg 3), scW G (ha 4) (rg 4), scW G (ha 5) (rg 5), slW G S0, slW G S1] [0, 2] [1, 3, 4, 5, 6, 7, 8, 9, 10, 11, 12, 13, 14, 15] rfl (by decide)).symm ?_)
      refine V.aload_n E dL_law_211 rfl rfl ?_
      refine V.aload_n E dL_law_212 rfl rfl ?_
      refine V.iload_n E dL_law_213 rfl rfl ?_
      refine V.iconst (v := nI (1)) E dL_law_214 (by decide) ?_
      refine V.iaddN E  dL_law_215 ?_
      refine V.sld (v := sc (i + 1)) E S (by omega) (rfl) dL_law_216 ?_
      refine V.if_eq (tgt := 224) E dL_law_217 (by decide) (fun _ => ?_) (fun h => absurd hz h)
      refine V.iconst (v := nI (bN false)) E dL_law_224 (by decide) ?_
      refine V.aload_n E dL_law_225 rfl rfl ?_
      refine V.iload_n E dL_law_226 rfl rfl ?_
      refine V.iconst (v := nI (2)) E dL_law_227 (by decide) ?_
      refine V.iaddN E  dL_law_228 ?_
      refine V.sld (v := sc (i + 2)) E S (by omega) (rfl) dL_law_229 ?_
      refine V.aload_n E dL_law_230 rfl rfl ?_
      refine V.iload_n E dL_law_231 rfl rfl ?_
      refine V.iconst (v := nI (3)) E dL_law_232 (by decide) ?_
      refine V.iaddN E  dL_law_233 ?_
      refine V.sld (v := sc (i + 3)) E S (by omega) (rfl) dL_law_234 ?_
      refine V.callV (C := RX5) E (c_X5_paint_bad G a hi sl sv mr mo mk mt mm me mw tx cl hl tl sp rd x (bN false) (sc (i + 2)) (sc (i + 3)) (hb)) (bl [gsW G ad (slA S0) (slA S1), scW G (ad 1) x, scW G (ad 2) y, vwW G (ad 3) ur uo uk us ut uc um ue uq un_, vwW G (ad 4) zr zo zk zs zt zc zm ze zq zn_, pdW G (ad 5) tx tl, hiW G (ad 6) ha ro hl, scW G (ha 0) (rg 0), scW G (ha 1) (rg 1), scW G (ha 2) (rg 2), scW G (ha 3) (rg 3), scW G (ha 4) (rg 4), scW G (ha 5) (rg 5), slW G S0, slW G S1]) [.int ((-1 : Int32))] 2 5 rfl rfl rfl gL_law_X5_paint rfl ⟨rfl, hd_X5_paint⟩ ⟨⟨Nat.le_of_ble_eq_true rfl, Nat.le_of_ble_eq_true rfl⟩, rmL hkc rfl, rmS hks rfl⟩ rfl (Nat.le_of_ble_eq_true rfl) rfl dL_law_235 (pBs (n := 16) [gsW G ad (slA S0) (slA S1), mdW G a (fla x) hi sl sv mr mo mk mt mm me mw tx cl hl tl sp rd, scW G (ad 1) x, scW G (ad 2) y, vwW G (ad 3) ur uo uk us ut uc um ue uq un_, vwW G (ad 4) zr zo zk zs zt zc zm ze zq zn_, pdW G (ad 5) tx tl, hiW G (ad 6) ha ro hl, scW G (ha 0) (rg 0), scW G (ha 1) (rg 1), scW G (ha 2) (rg 2), scW G (ha 3) (rg 3), scW G (ha 4) (rg 4), scW G (ha 5) (rg 5), slW G S0, slW G S1] [1] [0, 2, 3, 4, 5, 6, 7, 8, 9, 10, 11, 12, 13, 14, 15] rfl (by decide)) (kc' := kc) (ks' := ks) rfl rfl (rwI (ws' := (bl [gsW G ad (slA S0) (slA S1), mdW G a (fla x) hi sl sv mr mo mk mt mm me mw tx cl hl tl sp rd, scW G (ad 1) x, scW G (ad 2) y, vwW G (ad 3) ur uo uk us ut uc um ue uq un_, vwW G (ad 4) zr zo zk zs zt zc zm ze zq zn_, pdW G (ad 5) tx tl, hiW G (ad 6) ha ro hl, scW G (ha 0) (rg 0), scW G (ha 1) (rg 1), scW G (ha 2) (rg 2), scW G (ha 3) (rg 3), scW G (ha 4) (rg 4), scW G (ha 5) (rg 5), slW G S0, slW G S1])) (pBs (n := 16) [gsW G ad (slA S0) (slA S1), mdW G a (fla x) hi sl sv mr mo mk mt mm me mw tx cl hl tl sp rd, scW G (ad 1) x, scW G (ad 2) y, vwW G (ad 3) ur uo uk us ut uc um ue uq un_, vwW G (ad 4) zr zo zk zs zt zc zm ze zq zn_, pdW G (ad 5) tx tl, hiW G (ad 6) ha ro hl, scW G (ha 0) (rg 0), scW G (ha 1) (rg 1), scW G (ha 2) (rg 2), scW G (ha 3) (rg 3), scW G (ha 4) (rg 4), scW G (ha 5) (rg 5), slW G S0, slW G S1] [1] [0, 2, 3, 4, 5, 6, 7, 8, 9, 10, 11, 12, 13, 14, 15] rfl (by decide)).symm ?_)
      refine V.icmp_eq (tgt := 762) E dL_law_238 (by decide) (fun _ => ?_) (fun h => absurd rfl h)
      refine V.widen (k := kc + 5) (n := ks + 155) (Nat.le_add_right _ _) (Nat.le_add_right _ _) ?_
      exact K hi sl sv mr mo mk mt mm me mw tx cl hl tl sp rd x y ur uo uk us ut uc um ue uq un_ zr zo zk zs zt zc zm ze zq zn_ ro rg hh S0 S1 (q)
    · obtain ⟨p_, hp, e2⟩ := okI_s hb (by decide)
      by_cases hb : okI 4096 (sc (i + 3)) = false
      · refine V.aload_n E dL_law_184 rfl rfl ?_
        refine V.aload_n E dL_law_185 rfl rfl ?_
        refine V.iload_n E dL_law_186 rfl rfl ?_
        refine V.iconst (v := nI (1)) E dL_law_187 (by decide) ?_
        refine V.iaddN E  dL_law_188 ?_
        refine V.sld (v := sc (i + 1)) E S (by omega) (rfl) dL_law_189 ?_
        refine V.if_eq (tgt := 197) E dL_law_190 (by decide) (fun _ => ?_) (fun h => absurd hz h)
        refine V.iconst (v := nI (bN false)) E dL_law_197 (by decide) ?_
        refine V.aload_n E dL_law_198 rfl rfl ?_
        refine V.iload_n E dL_law_199 rfl rfl ?_
        refine V.iconst (v := nI (2)) E dL_law_200 (by decide) ?_
        refine V.iaddN E  dL_law_201 ?_
        refine V.sld (v := nI (p_)) E S (by omega) (e2) dL_law_202 ?_
        refine V.aload_n E dL_law_203 rfl rfl ?_
        refine V.iload_n E dL_law_204 rfl rfl ?_
        refine V.iconst (v := nI (3)) E dL_law_205 (by decide) ?_
        refine V.iaddN E  dL_law_206 ?_
        refine V.sld (v := sc (i + 3)) E S (by omega) (rfl) dL_law_207 ?_
        refine V.callV (C := RX4) E (c_X4_paint_bc G ad (slA S0) (slA S1) x (bN false) p_ (sc (i + 3)) (hp) (hb)) (bl [mdW G a (fla x) hi sl sv mr mo mk mt mm me mw tx cl hl tl sp rd, scW G (ad 2) y, vwW G (ad 3) ur uo uk us ut uc um ue uq un_, vwW G (ad 4) zr zo zk zs zt zc zm ze zq zn_, pdW G (ad 5) tx tl, hiW G (ad 6) ha ro hl, scW G (ha 0) (rg 0), scW G (ha 1) (rg 1), scW G (ha 2) (rg 2), scW G (ha 3) (rg 3), scW G (ha 4) (rg 4), scW G (ha 5) (rg 5), slW G S0, slW G S1]) [] 0 4 rfl rfl rfl gL_law_X4_paint rfl ⟨rfl, hd_X4_paint⟩ ⟨⟨Nat.le_of_ble_eq_true rfl, Nat.le_of_ble_eq_true rfl⟩, rmL hkc rfl, rmS hks rfl⟩ rfl (Nat.le_of_ble_eq_true rfl) rfl dL_law_208 (pBs (n := 16) [gsW G ad (slA S0) (slA S1), mdW G a (fla x) hi sl sv mr mo mk mt mm me mw tx cl hl tl sp rd, scW G (ad 1) x, scW G (ad 2) y, vwW G (ad 3) ur uo uk us ut uc um ue uq un_, vwW G (ad 4) zr zo zk zs zt zc zm ze zq zn_, pdW G (ad 5) tx tl, hiW G (ad 6) ha ro hl, scW G (ha 0) (rg 0), scW G (ha 1) (rg 1), scW G (ha 2) (rg 2), scW G (ha 3) (rg 3), scW G (ha 4) (rg 4), scW G (ha 5) (rg 5), slW G S0, slW G S1] [0, 2] [1, 3, 4, 5, 6, 7, 8, 9, 10, 11, 12, 13, 14, 15] rfl (by decide)) (kc' := kc) (ks' := ks) rfl rfl (rwI (ws' := (bl [gsW G ad (slA S0) (slA S1), mdW G a (fla x) hi sl sv mr mo mk mt mm me mw tx cl hl tl sp rd, scW G (ad 1) x, scW G (ad 2) y, vwW G (ad 3) ur uo uk us ut uc um ue uq un_, vwW G (ad 4) zr zo zk zs zt zc zm ze zq zn_, pdW G (ad 5) tx tl, hiW G (ad 6) ha ro hl, scW G (ha 0) (rg 0), scW G (ha 1) (rg 1), scW G (ha 2) (rg 2), scW G (ha 3) (rg 3), scW G (ha 4) (rg 4), scW G (ha 5) (rg 5), slW G S0, slW G S1])) (pBs (n := 16) [gsW G ad (slA S0) (slA S1), mdW G a (fla x) hi sl sv mr mo mk mt mm me mw tx cl hl tl sp rd, scW G (ad 1) x, scW G (ad 2) y, vwW G (ad 3) ur uo uk us ut uc um ue uq un_, vwW G (ad 4) zr zo zk zs zt zc zm ze zq zn_, pdW G (ad 5) tx tl, hiW G (ad 6) ha ro hl, scW G (ha 0) (rg 0), scW G (ha 1) (rg 1), scW G (ha 2) (rg 2), scW G (ha 3) (rg 3), scW G (ha 4) (rg 4), scW G (ha 5) (rg 5), slW G S0, slW G S1] [0, 2] [1, 3, 4, 5, 6, 7, 8, 9, 10, 11, 12, 13, 14, 15] rfl (by decide)).symm ?_)
        refine V.aload_n E dL_law_211 rfl rfl ?_
        refine V.aload_n E dL_law_212 rfl rfl ?_
        refine V.iload_n E dL_law_213 rfl rfl ?_
        refine V.iconst (v := nI (1)) E dL_law_214 (by decide) ?_
        refine V.iaddN E  dL_law_215 ?_
        refine V.sld (v := sc (i + 1)) E S (by omega) (rfl) dL_law_216 ?_
        refine V.if_eq (tgt := 224) E dL_law_217 (by decide) (fun _ => ?_) (fun h => absurd hz h)
        refine V.iconst (v := nI (bN false)) E dL_law_224 (by decide) ?_
        refine V.aload_n E dL_law_225 rfl rfl ?_
        refine V.iload_n E dL_law_226 rfl rfl ?_
        refine V.iconst (v := nI (2)) E dL_law_227 (by decide) ?_
        refine V.iaddN E  dL_law_228 ?_
        refine V.sld (v := nI (p_)) E S (by omega) (e2) dL_law_229 ?_
        refine V.aload_n E dL_law_230 rfl rfl ?_
        refine V.iload_n E dL_law_231 rfl rfl ?_
        refine V.iconst (v := nI (3)) E dL_law_232 (by decide) ?_
        refine V.iaddN E  dL_law_233 ?_
        refine V.sld (v := sc (i + 3)) E S (by omega) (rfl) dL_law_234 ?_
        refine V.callV (C := RX5) E (c_X5_paint_bc G a hi sl sv mr mo mk mt mm me mw tx cl hl tl sp rd x (bN false) p_ (sc (i + 3)) (hp) (hb)) (bl [gsW G ad (slA S0) (slA S1), scW G (ad 1) x, scW G (ad 2) y, vwW G (ad 3) ur uo uk us ut uc um ue uq un_, vwW G (ad 4) zr zo zk zs zt zc zm ze zq zn_, pdW G (ad 5) tx tl, hiW G (ad 6) ha ro hl, scW G (ha 0) (rg 0), scW G (ha 1) (rg 1), scW G (ha 2) (rg 2), scW G (ha 3) (rg 3), scW G (ha 4) (rg 4), scW G (ha 5) (rg 5), slW G S0, slW G S1]) [.int ((-2 : Int32))] 2 5 rfl rfl rfl gL_law_X5_paint rfl ⟨rfl, hd_X5_paint⟩ ⟨⟨Nat.le_of_ble_eq_true rfl, Nat.le_of_ble_eq_true rfl⟩, rmL hkc rfl, rmS hks rfl⟩ rfl (Nat.le_of_ble_eq_true rfl) rfl dL_law_235 (pBs (n := 16) [gsW G ad (slA S0) (slA S1), mdW G a (fla x) hi sl sv mr mo mk mt mm me mw tx cl hl tl sp rd, scW G (ad 1) x, scW G (ad 2) y, vwW G (ad 3) ur uo uk us ut uc um ue uq un_, vwW G (ad 4) zr zo zk zs zt zc zm ze zq zn_, pdW G (ad 5) tx tl, hiW G (ad 6) ha ro hl, scW G (ha 0) (rg 0), scW G (ha 1) (rg 1), scW G (ha 2) (rg 2), scW G (ha 3) (rg 3), scW G (ha 4) (rg 4), scW G (ha 5) (rg 5), slW G S0, slW G S1] [1] [0, 2, 3, 4, 5, 6, 7, 8, 9, 10, 11, 12, 13, 14, 15] rfl (by decide)) (kc' := kc) (ks' := ks) rfl rfl (rwI (ws' := (bl [gsW G ad (slA S0) (slA S1), mdW G a (fla x) hi sl sv mr mo mk mt mm me mw tx cl hl tl sp rd, scW G (ad 1) x, scW G (ad 2) y, vwW G (ad 3) ur uo uk us ut uc um ue uq un_, vwW G (ad 4) zr zo zk zs zt zc zm ze zq zn_, pdW G (ad 5) tx tl, hiW G (ad 6) ha ro hl, scW G (ha 0) (rg 0), scW G (ha 1) (rg 1), scW G (ha 2) (rg 2), scW G (ha 3) (rg 3), scW G (ha 4) (rg 4), scW G (ha 5) (rg 5), slW G S0, slW G S1])) (pBs (n := 16) [gsW G ad (slA S0) (slA S1), mdW G a (fla x) hi sl sv mr mo mk mt mm me mw tx cl hl tl sp rd, scW G (ad 1) x, scW G (ad 2) y, vwW G (ad 3) ur uo uk us ut uc um ue uq un_, vwW G (ad 4) zr zo zk zs zt zc zm ze zq zn_, pdW G (ad 5) tx tl, hiW G (ad 6) ha ro hl, scW G (ha 0) (rg 0), scW G (ha 1) (rg 1), scW G (ha 2) (rg 2), scW G (ha 3) (rg 3), scW G (ha 4) (rg 4), scW G (ha 5) (rg 5), slW G S0, slW G S1] [1] [0, 2, 3, 4, 5, 6, 7, 8, 9, 10, 11, 12, 13, 14, 15] rfl (by decide)).symm ?_)
        refine V.icmp_eq (tgt := 762) E dL_law_238 (by decide) (fun _ => ?_) (fun h => absurd rfl h)
        refine V.widen (k := kc + 5) (n := ks + 155) (Nat.le_add_right _ _) (Nat.le_add_right _ _) ?_
        exact K hi sl sv mr mo mk mt mm me mw tx cl hl tl sp rd x y ur uo uk us ut uc um ue uq un_ zr zo zk zs zt zc zm ze zq zn_ ro rg hh S0 S1 (q)
      · obtain ⟨c_, hc, e3⟩ := okI_s hb (by decide)
        refine V.aload_n E dL_law_184 rfl rfl ?_
        refine V.aload_n E dL_law_185 rfl rfl ?_
        refine V.iload_n E dL_law_186 rfl rfl ?_
        refine V.iconst (v := nI (1)) E dL_law_187 (by decide) ?_
        refine V.iaddN E  dL_law_188 ?_
        refine V.sld (v := sc (i + 1)) E S (by omega) (rfl) dL_law_189 ?_
        refine V.if_eq (tgt := 197) E dL_law_190 (by decide) (fun _ => ?_) (fun h => absurd hz h)
        refine V.iconst (v := nI (bN false)) E dL_law_197 (by decide) ?_
        refine V.aload_n E dL_law_198 rfl rfl ?_
        refine V.iload_n E dL_law_199 rfl rfl ?_
        refine V.iconst (v := nI (2)) E dL_law_200 (by decide) ?_
        refine V.iaddN E  dL_law_201 ?_
        refine V.sld (v := nI (p_)) E S (by omega) (e2) dL_law_202 ?_
        refine V.aload_n E dL_law_203 rfl rfl ?_
        refine V.iload_n E dL_law_204 rfl rfl ?_
        refine V.iconst (v := nI (3)) E dL_law_205 (by decide) ?_
        refine V.iaddN E  dL_law_206 ?_
        refine V.sld (v := nI (c_)) E S (by omega) (e3) dL_law_207 ?_
        refine V.callV (C := RX4) E (c_X4_paint_f G ad (slA S0) (slA S1) x ha rg ro hl p_ c_ (q_o) (q_l) (q_x) (hp) (hc)) (bl [mdW G a (fla x) hi sl sv mr mo mk mt mm me mw tx cl hl tl sp rd, scW G (ad 2) y, vwW G (ad 3) ur uo uk us ut uc um ue uq un_, vwW G (ad 4) zr zo zk zs zt zc zm ze zq zn_, pdW G (ad 5) tx tl, slW G S0, slW G S1]) [] 0 4 rfl rfl rfl gL_law_X4_paint rfl ⟨rfl, hd_X4_paint⟩ ⟨⟨Nat.le_of_ble_eq_true rfl, Nat.le_of_ble_eq_true rfl⟩, rmL hkc rfl, rmS hks rfl⟩ rfl (Nat.le_of_ble_eq_true rfl) rfl dL_law_208 (pBs (n := 16) [gsW G ad (slA S0) (slA S1), mdW G a (fla x) hi sl sv mr mo mk mt mm me mw tx cl hl tl sp rd, scW G (ad 1) x, scW G (ad 2) y, vwW G (ad 3) ur uo uk us ut uc um ue uq un_, vwW G (ad 4) zr zo zk zs zt zc zm ze zq zn_, pdW G (ad 5) tx tl, hiW G (ad 6) ha ro hl, scW G (ha 0) (rg 0), scW G (ha 1) (rg 1), scW G (ha 2) (rg 2), scW G (ha 3) (rg 3), scW G (ha 4) (rg 4), scW G (ha 5) (rg 5), slW G S0, slW G S1] [0, 2, 7, 8, 9, 10, 11, 12, 13] [1, 3, 4, 5, 6, 14, 15] rfl (by decide)) (kc' := kc) (ks' := ks) rfl rfl (rwI (ws' := (bl [gsW G ad (slA S0) (slA S1), mdW G a (fla x) hi sl sv mr mo mk mt mm me mw tx cl hl tl sp rd, scW G (ad 1) (scS x, scF x, upN (scB x) p_ c_, x.2.2.2), scW G (ad 2) y, vwW G (ad 3) ur uo uk us ut uc um ue uq un_, vwW G (ad 4) zr zo zk zs zt zc zm ze zq zn_, pdW G (ad 5) tx tl, hiW G (ad 6) ha (onN ro hl) (hlN hl), scW G (ha 0) (rgu rg ((ro + hl) % 6) x 0), scW G (ha 1) (rgu rg ((ro + hl) % 6) x 1), scW G (ha 2) (rgu rg ((ro + hl) % 6) x 2), scW G (ha 3) (rgu rg ((ro + hl) % 6) x 3), scW G (ha 4) (rgu rg ((ro + hl) % 6) x 4), scW G (ha 5) (rgu rg ((ro + hl) % 6) x 5), slW G S0, slW G S1])) (pBs (n := 16) [gsW G ad (slA S0) (slA S1), mdW G a (fla x) hi sl sv mr mo mk mt mm me mw tx cl hl tl sp rd, scW G (ad 1) (scS x, scF x, upN (scB x) p_ c_, x.2.2.2), scW G (ad 2) y, vwW G (ad 3) ur uo uk us ut uc um ue uq un_, vwW G (ad 4) zr zo zk zs zt zc zm ze zq zn_, pdW G (ad 5) tx tl, hiW G (ad 6) ha (onN ro hl) (hlN hl), scW G (ha 0) (rgu rg ((ro + hl) % 6) x 0), scW G (ha 1) (rgu rg ((ro + hl) % 6) x 1), scW G (ha 2) (rgu rg ((ro + hl) % 6) x 2), scW G (ha 3) (rgu rg ((ro + hl) % 6) x 3), scW G (ha 4) (rgu rg ((ro + hl) % 6) x 4), scW G (ha 5) (rgu rg ((ro + hl) % 6) x 5), slW G S0, slW G S1] [0, 2, 7, 8, 9, 10, 11, 12, 13] [1, 3, 4, 5, 6, 14, 15] rfl (by decide)).symm ?_)
        refine V.aload_n E dL_law_211 rfl rfl ?_
        refine V.aload_n E dL_law_212 rfl rfl ?_
        refine V.iload_n E dL_law_213 rfl rfl ?_
        refine V.iconst (v := nI (1)) E dL_law_214 (by decide) ?_
        refine V.iaddN E  dL_law_215 ?_
        refine V.sld (v := sc (i + 1)) E S (by omega) (rfl) dL_law_216 ?_
        refine V.if_eq (tgt := 224) E dL_law_217 (by decide) (fun _ => ?_) (fun h => absurd hz h)
        refine V.iconst (v := nI (bN false)) E dL_law_224 (by decide) ?_
        refine V.aload_n E dL_law_225 rfl rfl ?_
        refine V.iload_n E dL_law_226 rfl rfl ?_
        refine V.iconst (v := nI (2)) E dL_law_227 (by decide) ?_
        refine V.iaddN E  dL_law_228 ?_
        refine V.sld (v := nI (p_)) E S (by omega) (e2) dL_law_229 ?_
        refine V.aload_n E dL_law_230 rfl rfl ?_
        refine V.iload_n E dL_law_231 rfl rfl ?_
        refine V.iconst (v := nI (3)) E dL_law_232 (by decide) ?_
        refine V.iaddN E  dL_law_233 ?_
        refine V.sld (v := nI (c_)) E S (by omega) (e3) dL_law_234 ?_
        refine V.callV (C := RX5) E (c_X5_paint_f G a hi sl sv mr mo mk mt mm me mw tx cl hl tl sp rd x hh p_ c_ (q_l) (q_H) (hp) (hc)) (bl [gsW G ad (slA S0) (slA S1), scW G (ad 1) (scS x, scF x, upN (scB x) p_ c_, x.2.2.2), scW G (ad 2) y, vwW G (ad 3) ur uo uk us ut uc um ue uq un_, vwW G (ad 4) zr zo zk zs zt zc zm ze zq zn_, pdW G (ad 5) tx tl, hiW G (ad 6) ha (onN ro hl) (hlN hl), scW G (ha 0) (rgu rg ((ro + hl) % 6) x 0), scW G (ha 1) (rgu rg ((ro + hl) % 6) x 1), scW G (ha 2) (rgu rg ((ro + hl) % 6) x 2), scW G (ha 3) (rgu rg ((ro + hl) % 6) x 3), scW G (ha 4) (rgu rg ((ro + hl) % 6) x 4), scW G (ha 5) (rgu rg ((ro + hl) % 6) x 5), slW G S0, slW G S1]) [.int (nI (scB x p_))] 2 5 rfl rfl rfl gL_law_X5_paint rfl ⟨rfl, hd_X5_paint⟩ ⟨⟨Nat.le_of_ble_eq_true rfl, Nat.le_of_ble_eq_true rfl⟩, rmL hkc rfl, rmS hks rfl⟩ rfl (Nat.le_of_ble_eq_true rfl) rfl dL_law_235 (pBs (n := 16) [gsW G ad (slA S0) (slA S1), mdW G a (fla x) hi sl sv mr mo mk mt mm me mw tx cl hl tl sp rd, scW G (ad 1) (scS x, scF x, upN (scB x) p_ c_, x.2.2.2), scW G (ad 2) y, vwW G (ad 3) ur uo uk us ut uc um ue uq un_, vwW G (ad 4) zr zo zk zs zt zc zm ze zq zn_, pdW G (ad 5) tx tl, hiW G (ad 6) ha (onN ro hl) (hlN hl), scW G (ha 0) (rgu rg ((ro + hl) % 6) x 0), scW G (ha 1) (rgu rg ((ro + hl) % 6) x 1), scW G (ha 2) (rgu rg ((ro + hl) % 6) x 2), scW G (ha 3) (rgu rg ((ro + hl) % 6) x 3), scW G (ha 4) (rgu rg ((ro + hl) % 6) x 4), scW G (ha 5) (rgu rg ((ro + hl) % 6) x 5), slW G S0, slW G S1] [1] [0, 2, 3, 4, 5, 6, 7, 8, 9, 10, 11, 12, 13, 14, 15] rfl (by decide)) (kc' := kc) (ks' := ks) rfl rfl (rxI (ws' := fun (g_235 : Nat → Nat) => (bl [gsW G ad (slA S0) (slA S1), mdW G a (fla (scS x, scF x, upN (scB x) p_ c_, x.2.2.2)) g_235 sl sv mr mo mk mt mm me mw tx cl (hlN hl) tl sp rd, scW G (ad 1) (scS x, scF x, upN (scB x) p_ c_, x.2.2.2), scW G (ad 2) y, vwW G (ad 3) ur uo uk us ut uc um ue uq un_, vwW G (ad 4) zr zo zk zs zt zc zm ze zq zn_, pdW G (ad 5) tx tl, hiW G (ad 6) ha (onN ro hl) (hlN hl), scW G (ha 0) (rgu rg ((ro + hl) % 6) x 0), scW G (ha 1) (rgu rg ((ro + hl) % 6) x 1), scW G (ha 2) (rgu rg ((ro + hl) % 6) x 2), scW G (ha 3) (rgu rg ((ro + hl) % 6) x 3), scW G (ha 4) (rgu rg ((ro + hl) % 6) x 4), scW G (ha 5) (rgu rg ((ro + hl) % 6) x 5), slW G S0, slW G S1])) (fun g_235 => (pBs (n := 16) [gsW G ad (slA S0) (slA S1), mdW G a (fla (scS x, scF x, upN (scB x) p_ c_, x.2.2.2)) g_235 sl sv mr mo mk mt mm me mw tx cl (hlN hl) tl sp rd, scW G (ad 1) (scS x, scF x, upN (scB x) p_ c_, x.2.2.2), scW G (ad 2) y, vwW G (ad 3) ur uo uk us ut uc um ue uq un_, vwW G (ad 4) zr zo zk zs zt zc zm ze zq zn_, pdW G (ad 5) tx tl, hiW G (ad 6) ha (onN ro hl) (hlN hl), scW G (ha 0) (rgu rg ((ro + hl) % 6) x 0), scW G (ha 1) (rgu rg ((ro + hl) % 6) x 1), scW G (ha 2) (rgu rg ((ro + hl) % 6) x 2), scW G (ha 3) (rgu rg ((ro + hl) % 6) x 3), scW G (ha 4) (rgu rg ((ro + hl) % 6) x 4), scW G (ha 5) (rgu rg ((ro + hl) % 6) x 5), slW G S0, slW G S1] [1] [0, 2, 3, 4, 5, 6, 7, 8, 9, 10, 11, 12, 13, 14, 15] rfl (by decide)).symm) (fun g_235 hf_235 => ?_))
        refine V.icmp_eq (tgt := 762) E dL_law_238 (by decide) (fun _ => ?_) (fun h => absurd rfl h)
        refine V.widen (k := kc + 5) (n := ks + 155) (Nat.le_add_right _ _) (Nat.le_add_right _ _) ?_
        exact K g_235 sl sv mr mo mk mt mm me mw tx cl (hlN hl) tl sp rd (scS x, scF x, upN (scB x) p_ c_, x.2.2.2) y ur uo uk us ut uc um ue uq un_ zr zo zk zs zt zc zm ze zq zn_ (onN ro hl) (rgu rg ((ro + hl) % 6) x) (hhN x hl hh) S0 S1 (LI.rem q (q_x.bk (upN_in q_x.b hc)) hf_235)
  · by_cases hb : okI 48 (sc (i + 2)) = false
    · refine V.aload_n E dL_law_184 rfl rfl ?_
      refine V.aload_n E dL_law_185 rfl rfl ?_
      refine V.iload_n E dL_law_186 rfl rfl ?_
      refine V.iconst (v := nI (1)) E dL_law_187 (by decide) ?_
      refine V.iaddN E  dL_law_188 ?_
      refine V.sld (v := sc (i + 1)) E S (by omega) (rfl) dL_law_189 ?_
      refine V.if_eq (tgt := 197) E dL_law_190 (by decide) (fun h => absurd h hz) (fun _ => ?_)
      refine V.iconst (v := nI (bN true)) E dL_law_193 (by decide) ?_
      refine V.goto (tgt := 198) E dL_law_194 (by decide) ?_
      refine V.aload_n E dL_law_198 rfl rfl ?_
      refine V.iload_n E dL_law_199 rfl rfl ?_
      refine V.iconst (v := nI (2)) E dL_law_200 (by decide) ?_
      refine V.iaddN E  dL_law_201 ?_
      refine V.sld (v := sc (i + 2)) E S (by omega) (rfl) dL_law_202 ?_
      refine V.aload_n E dL_law_203 rfl rfl ?_
      refine V.iload_n E dL_law_204 rfl rfl ?_
      refine V.iconst (v := nI (3)) E dL_law_205 (by decide) ?_
      refine V.iaddN E  dL_law_206 ?_
      refine V.sld (v := sc (i + 3)) E S (by omega) (rfl) dL_law_207 ?_
      refine V.callV (C := RX4) E (c_X4_paint_bad G ad (slA S0) (slA S1) x (bN true) (sc (i + 2)) (sc (i + 3)) (hb)) (bl [mdW G a (fla x) hi sl sv mr mo mk mt mm me mw tx cl hl tl sp rd, scW G (ad 2) y, vwW G (ad 3) ur uo uk us ut uc um ue uq un_, vwW G (ad 4) zr zo zk zs zt zc zm ze zq zn_, pdW G (ad 5) tx tl, hiW G (ad 6) ha ro hl, scW G (ha 0) (rg 0), scW G (ha 1) (rg 1), scW G (ha 2) (rg 2), scW G (ha 3) (rg 3), scW G (ha 4) (rg 4), scW G (ha 5) (rg 5), slW G S0, slW G S1]) [] 0 4 rfl rfl rfl gL_law_X4_paint rfl ⟨rfl, hd_X4_paint⟩ ⟨⟨Nat.le_of_ble_eq_true rfl, Nat.le_of_ble_eq_true rfl⟩, rmL hkc rfl, rmS hks rfl⟩ rfl (Nat.le_of_ble_eq_true rfl) rfl dL_law_208 (pBs (n := 16) [gsW G ad (slA S0) (slA S1), mdW G a (fla x) hi sl sv mr mo mk mt mm me mw tx cl hl tl sp rd, scW G (ad 1) x, scW G (ad 2) y, vwW G (ad 3) ur uo uk us ut uc um ue uq un_, vwW G (ad 4) zr zo zk zs zt zc zm ze zq zn_, pdW G (ad 5) tx tl, hiW G (ad 6) ha ro hl, scW G (ha 0) (rg 0), scW G (ha 1) (rg 1), scW G (ha 2) (rg 2), scW G (ha 3) (rg 3), scW G (ha 4) (rg 4), scW G (ha 5) (rg 5), slW G S0, slW G S1] [0, 2] [1, 3, 4, 5, 6, 7, 8, 9, 10, 11, 12, 13, 14, 15] rfl (by decide)) (kc' := kc) (ks' := ks) rfl rfl (rwI (ws' := (bl [gsW G ad (slA S0) (slA S1), mdW G a (fla x) hi sl sv mr mo mk mt mm me mw tx cl hl tl sp rd, scW G (ad 1) x, scW G (ad 2) y, vwW G (ad 3) ur uo uk us ut uc um ue uq un_, vwW G (ad 4) zr zo zk zs zt zc zm ze zq zn_, pdW G (ad 5) tx tl, hiW G (ad 6) ha ro hl, scW G (ha 0) (rg 0), scW G (ha 1) (rg 1), scW G (ha 2) (rg 2), scW G (ha 3) (rg 3), scW G (ha 4) (rg 4), scW G (ha 5) (rg 5), slW G S0, slW G S1])) (pBs (n := 16) [gsW G ad (slA S0) (slA S1), mdW G a (fla x) hi sl sv mr mo mk mt mm me mw tx cl hl tl sp rd, scW G (ad 1) x, scW G (ad 2) y, vwW G (ad 3) ur uo uk us ut uc um ue uq un_, vwW G (ad 4) zr zo zk zs zt zc zm ze zq zn_, pdW G (ad 5) tx tl, hiW G (ad 6) ha ro hl, scW G (ha 0) (rg 0), scW G (ha 1) (rg 1), scW G (ha 2) (rg 2), scW G (ha 3) (rg 3), scW G (ha 4) (rg 4), scW G (ha 5) (rg 5), slW G S0, slW G S1] [0, 2] [1, 3, 4, 5, 6, 7, 8, 9, 10, 11, 12, 13, 14, 15] rfl (by decide)).symm ?_)
      refine V.aload_n E dL_law_211 rfl rfl ?_
      refine V.aload_n E dL_law_212 rfl rfl ?_
      refine V.iload_n E dL_law_213 rfl rfl ?_
      refine V.iconst (v := nI (1)) E dL_law_214 (by decide) ?_
      refine V.iaddN E  dL_law_215 ?_
      refine V.sld (v := sc (i + 1)) E S (by omega) (rfl) dL_law_216 ?_
      refine V.if_eq (tgt := 224) E dL_law_217 (by decide) (fun h => absurd h hz) (fun _ => ?_)
      refine V.iconst (v := nI (bN true)) E dL_law_220 (by decide) ?_
      refine V.goto (tgt := 225) E dL_law_221 (by decide) ?_
      refine V.aload_n E dL_law_225 rfl rfl ?_
      refine V.iload_n E dL_law_226 rfl rfl ?_
      refine V.iconst (v := nI (2)) E dL_law_227 (by decide) ?_
      refine V.iaddN E  dL_law_228 ?_
      refine V.sld (v := sc (i + 2)) E S (by omega) (rfl) dL_law_229 ?_
      refine V.aload_n E dL_law_230 rfl rfl ?_
      refine V.iload_n E dL_law_231 rfl rfl ?_
      refine V.iconst (v := nI (3)) E dL_law_232 (by decide) ?_
      refine V.iaddN E  dL_law_233 ?_
      refine V.sld (v := sc (i + 3)) E S (by omega) (rfl) dL_law_234 ?_
      refine V.callV (C := RX5) E (c_X5_paint_bad G a hi sl sv mr mo mk mt mm me mw tx cl hl tl sp rd x (bN true) (sc (i + 2)) (sc (i + 3)) (hb)) (bl [gsW G ad (slA S0) (slA S1), scW G (ad 1) x, scW G (ad 2) y, vwW G (ad 3) ur uo uk us ut uc um ue uq un_, vwW G (ad 4) zr zo zk zs zt zc zm ze zq zn_, pdW G (ad 5) tx tl, hiW G (ad 6) ha ro hl, scW G (ha 0) (rg 0), scW G (ha 1) (rg 1), scW G (ha 2) (rg 2), scW G (ha 3) (rg 3), scW G (ha 4) (rg 4), scW G (ha 5) (rg 5), slW G S0, slW G S1]) [.int ((-1 : Int32))] 2 5 rfl rfl rfl gL_law_X5_paint rfl ⟨rfl, hd_X5_paint⟩ ⟨⟨Nat.le_of_ble_eq_true rfl, Nat.le_of_ble_eq_true rfl⟩, rmL hkc rfl, rmS hks rfl⟩ rfl (Nat.le_of_ble_eq_true rfl) rfl dL_law_235 (pBs (n := 16) [gsW G ad (slA S0) (slA S1), mdW G a (fla x) hi sl sv mr mo mk mt mm me mw tx cl hl tl sp rd, scW G (ad 1) x, scW G (ad 2) y, vwW G (ad 3) ur uo uk us ut uc um ue uq un_, vwW G (ad 4) zr zo zk zs zt zc zm ze zq zn_, pdW G (ad 5) tx tl, hiW G (ad 6) ha ro hl, scW G (ha 0) (rg 0), scW G (ha 1) (rg 1), scW G (ha 2) (rg 2), scW G (ha 3) (rg 3), scW G (ha 4) (rg 4), scW G (ha 5) (rg 5), slW G S0, slW G S1] [1] [0, 2, 3, 4, 5, 6, 7, 8, 9, 10, 11, 12, 13, 14, 15] rfl (by decide)) (kc' := kc) (ks' := ks) rfl rfl (rwI (ws' := (bl [gsW G ad (slA S0) (slA S1), mdW G a (fla x) hi sl sv mr mo mk mt mm me mw tx cl hl tl sp rd, scW G (ad 1) x, scW G (ad 2) y, vwW G (ad 3) ur uo uk us ut uc um ue uq un_, vwW G (ad 4) zr zo zk zs zt zc zm ze zq zn_, pdW G (ad 5) tx tl, hiW G (ad 6) ha ro hl, scW G (ha 0) (rg 0), scW G (ha 1) (rg 1), scW G (ha 2) (rg 2), scW G (ha 3) (rg 3), scW G (ha 4) (rg 4), scW G (ha 5) (rg 5), slW G S0, slW G S1])) (pBs (n := 16) [gsW G ad (slA S0) (slA S1), mdW G a (fla x) hi sl sv mr mo mk mt mm me mw tx cl hl tl sp rd, scW G (ad 1) x, scW G (ad 2) y, vwW G (ad 3) ur uo uk us ut uc um ue uq un_, vwW G (ad 4) zr zo zk zs zt zc zm ze zq zn_, pdW G (ad 5) tx tl, hiW G (ad 6) ha ro hl, scW G (ha 0) (rg 0), scW G (ha 1) (rg 1), scW G (ha 2) (rg 2), scW G (ha 3) (rg 3), scW G (ha 4) (rg 4), scW G (ha 5) (rg 5), slW G S0, slW G S1] [1] [0, 2, 3, 4, 5, 6, 7, 8, 9, 10, 11, 12, 13, 14, 15] rfl (by decide)).symm ?_)
      refine V.icmp_eq (tgt := 762) E dL_law_238 (by decide) (fun _ => ?_) (fun h => absurd rfl h)
      refine V.widen (k := kc + 5) (n := ks + 155) (Nat.le_add_right _ _) (Nat.le_add_right _ _) ?_
      exact K hi sl sv mr mo mk mt mm me mw tx cl hl tl sp rd x y ur uo uk us ut uc um ue uq un_ zr zo zk zs zt zc zm ze zq zn_ ro rg hh S0 S1 (q)
    · obtain ⟨p_, hp, e2⟩ := okI_s hb (by decide)
      by_cases hb : okI 4096 (sc (i + 3)) = false
      · refine V.aload_n E dL_law_184 rfl rfl ?_
        refine V.aload_n E dL_law_185 rfl rfl ?_
        refine V.iload_n E dL_law_186 rfl rfl ?_
        refine V.iconst (v := nI (1)) E dL_law_187 (by decide) ?_
        refine V.iaddN E  dL_law_188 ?_
        refine V.sld (v := sc (i + 1)) E S (by omega) (rfl) dL_law_189 ?_
        refine V.if_eq (tgt := 197) E dL_law_190 (by decide) (fun h => absurd h hz) (fun _ => ?_)
        refine V.iconst (v := nI (bN true)) E dL_law_193 (by decide) ?_
        refine V.goto (tgt := 198) E dL_law_194 (by decide) ?_
        refine V.aload_n E dL_law_198 rfl rfl ?_
        refine V.iload_n E dL_law_199 rfl rfl ?_
        refine V.iconst (v := nI (2)) E dL_law_200 (by decide) ?_
        refine V.iaddN E  dL_law_201 ?_
        refine V.sld (v := nI (p_)) E S (by omega) (e2) dL_law_202 ?_
        refine V.aload_n E dL_law_203 rfl rfl ?_
        refine V.iload_n E dL_law_204 rfl rfl ?_
        refine V.iconst (v := nI (3)) E dL_law_205 (by decide) ?_
        refine V.iaddN E  dL_law_206 ?_
        refine V.sld (v := sc (i + 3)) E S (by omega) (rfl) dL_law_207 ?_
        refine V.callV (C := RX4) E (c_X4_paint_bc G ad (slA S0) (slA S1) x (bN true) p_ (sc (i + 3)) (hp) (hb)) (bl [mdW G a (fla x) hi sl sv mr mo mk mt mm me mw tx cl hl tl sp rd, scW G (ad 2) y, vwW G (ad 3) ur uo uk us ut uc um ue uq un_, vwW G (ad 4) zr zo zk zs zt zc zm ze zq zn_, pdW G (ad 5) tx tl, hiW G (ad 6) ha ro hl, scW G (ha 0) (rg 0), scW G (ha 1) (rg 1), scW G (ha 2) (rg 2), scW G (ha 3) (rg 3), scW G (ha 4) (rg 4), scW G (ha 5) (rg 5), slW G S0, slW G S1]) [] 0 4 rfl rfl rfl gL_law_X4_paint rfl ⟨rfl, hd_X4_paint⟩ ⟨⟨Nat.le_of_ble_eq_true rfl, Nat.le_of_ble_eq_true rfl⟩, rmL hkc rfl, rmS hks rfl⟩ rfl (Nat.le_of_ble_eq_true rfl) rfl dL_law_208 (pBs (n := 16) [gsW G ad (slA S0) (slA S1), mdW G a (fla x) hi sl sv mr mo mk mt mm me mw tx cl hl tl sp rd, scW G (ad 1) x, scW G (ad 2) y, vwW G (ad 3) ur uo uk us ut uc um ue uq un_, vwW G (ad 4) zr zo zk zs zt zc zm ze zq zn_, pdW G (ad 5) tx tl, hiW G (ad 6) ha ro hl, scW G (ha 0) (rg 0), scW G (ha 1) (rg 1), scW G (ha 2) (rg 2), scW G (ha 3) (rg 3), scW G (ha 4) (rg 4), scW G (ha 5) (rg 5), slW G S0, slW G S1] [0, 2] [1, 3, 4, 5, 6, 7, 8, 9, 10, 11, 12, 13, 14, 15] rfl (by decide)) (kc' := kc) (ks' := ks) rfl rfl (rwI (ws' := (bl [gsW G ad (slA S0) (slA S1), mdW G a (fla x) hi sl sv mr mo mk mt mm me mw tx cl hl tl sp rd, scW G (ad 1) x, scW G (ad 2) y, vwW G (ad 3) ur uo uk us ut uc um ue uq un_, vwW G (ad 4) zr zo zk zs zt zc zm ze zq zn_, pdW G (ad 5) tx tl, hiW G (ad 6) ha ro hl, scW G (ha 0) (rg 0), scW G (ha 1) (rg 1), scW G (ha 2) (rg 2), scW G (ha 3) (rg 3), scW G (ha 4) (rg 4), scW G (ha 5) (rg 5), slW G S0, slW G S1])) (pBs (n := 16) [gsW G ad (slA S0) (slA S1), mdW G a (fla x) hi sl sv mr mo mk mt mm me mw tx cl hl tl sp rd, scW G (ad 1) x, scW G (ad 2) y, vwW G (ad 3) ur uo uk us ut uc um ue uq un_, vwW G (ad 4) zr zo zk zs zt zc zm ze zq zn_, pdW G (ad 5) tx tl, hiW G (ad 6) ha ro hl, scW G (ha 0) (rg 0), scW G (ha 1) (rg 1), scW G (ha 2) (rg 2), scW G (ha 3) (rg 3), scW G (ha 4) (rg 4), scW G (ha 5) (rg 5), slW G S0, slW G S1] [0, 2] [1, 3, 4, 5, 6, 7, 8, 9, 10, 11, 12, 13, 14, 15] rfl (by decide)).symm ?_)
        refine V.aload_n E dL_law_211 rfl rfl ?_
        refine V.aload_n E dL_law_212 rfl rfl ?_
        refine V.iload_n E dL_law_213 rfl rfl ?_
        refine V.iconst (v := nI (1)) E dL_law_214 (by decide) ?_
        refine V.iaddN E  dL_law_215 ?_
        refine V.sld (v := sc (i + 1)) E S (by omega) (rfl) dL_law_216 ?_
        refine V.if_eq (tgt := 224) E dL_law_217 (by decide) (fun h => absurd h hz) (fun _ => ?_)
        refine V.iconst (v := nI (bN true)) E dL_law_220 (by decide) ?_
        refine V.goto (tgt := 225) E dL_law_221 (by decide) ?_
        refine V.aload_n E dL_law_225 rfl rfl ?_
        refine V.iload_n E dL_law_226 rfl rfl ?_
        refine V.iconst (v := nI (2)) E dL_law_227 (by decide) ?_
        refine V.iaddN E  dL_law_228 ?_
        refine V.sld (v := nI (p_)) E S (by omega) (e2) dL_law_229 ?_
        refine V.aload_n E dL_law_230 rfl rfl ?_
        refine V.iload_n E dL_law_231 rfl rfl ?_
        refine V.iconst (v := nI (3)) E dL_law_232 (by decide) ?_
        refine V.iaddN E  dL_law_233 ?_
        refine V.sld (v := sc (i + 3)) E S (by omega) (rfl) dL_law_234 ?_
        refine V.callV (C := RX5) E (c_X5_paint_bc G a hi sl sv mr mo mk mt mm me mw tx cl hl tl sp rd x (bN true) p_ (sc (i + 3)) (hp) (hb)) (bl [gsW G ad (slA S0) (slA S1), scW G (ad 1) x, scW G (ad 2) y, vwW G (ad 3) ur uo uk us ut uc um ue uq un_, vwW G (ad 4) zr zo zk zs zt zc zm ze zq zn_, pdW G (ad 5) tx tl, hiW G (ad 6) ha ro hl, scW G (ha 0) (rg 0), scW G (ha 1) (rg 1), scW G (ha 2) (rg 2), scW G (ha 3) (rg 3), scW G (ha 4) (rg 4), scW G (ha 5) (rg 5), slW G S0, slW G S1]) [.int ((-2 : Int32))] 2 5 rfl rfl rfl gL_law_X5_paint rfl ⟨rfl, hd_X5_paint⟩ ⟨⟨Nat.le_of_ble_eq_true rfl, Nat.le_of_ble_eq_true rfl⟩, rmL hkc rfl, rmS hks rfl⟩ rfl (Nat.le_of_ble_eq_true rfl) rfl dL_law_235 (pBs (n := 16) [gsW G ad (slA S0) (slA S1), mdW G a (fla x) hi sl sv mr mo mk mt mm me mw tx cl hl tl sp rd, scW G (ad 1) x, scW G (ad 2) y, vwW G (ad 3) ur uo uk us ut uc um ue uq un_, vwW G (ad 4) zr zo zk zs zt zc zm ze zq zn_, pdW G (ad 5) tx tl, hiW G (ad 6) ha ro hl, scW G (ha 0) (rg 0), scW G (ha 1) (rg 1), scW G (ha 2) (rg 2), scW G (ha 3) (rg 3), scW G (ha 4) (rg 4), scW G (ha 5) (rg 5), slW G S0, slW G S1] [1] [0, 2, 3, 4, 5, 6, 7, 8, 9, 10, 11, 12, 13, 14, 15] rfl (by decide)) (kc' := kc) (ks' := ks) rfl rfl (rwI (ws' := (bl [gsW G ad (slA S0) (slA S1), mdW G a (fla x) hi sl sv mr mo mk mt mm me mw tx cl hl tl sp rd, scW G (ad 1) x, scW G (ad 2) y, vwW G (ad 3) ur uo uk us ut uc um ue uq un_, vwW G (ad 4) zr zo zk zs zt zc zm ze zq zn_, pdW G (ad 5) tx tl, hiW G (ad 6) ha ro hl, scW G (ha 0) (rg 0), scW G (ha 1) (rg 1), scW G (ha 2) (rg 2), scW G (ha 3) (rg 3), scW G (ha 4) (rg 4), scW G (ha 5) (rg 5), slW G S0, slW G S1])) (pBs (n := 16) [gsW G ad (slA S0) (slA S1), mdW G a (fla x) hi sl sv mr mo mk mt mm me mw tx cl hl tl sp rd, scW G (ad 1) x, scW G (ad 2) y, vwW G (ad 3) ur uo uk us ut uc um ue uq un_, vwW G (ad 4) zr zo zk zs zt zc zm ze zq zn_, pdW G (ad 5) tx tl, hiW G (ad 6) ha ro hl, scW G (ha 0) (rg 0), scW G (ha 1) (rg 1), scW G (ha 2) (rg 2), scW G (ha 3) (rg 3), scW G (ha 4) (rg 4), scW G (ha 5) (rg 5), slW G S0, slW G S1] [1] [0, 2, 3, 4, 5, 6, 7, 8, 9, 10, 11, 12, 13, 14, 15] rfl (by decide)).symm ?_)
        refine V.icmp_eq (tgt := 762) E dL_law_238 (by decide) (fun _ => ?_) (fun h => absurd rfl h)
        refine V.widen (k := kc + 5) (n := ks + 155) (Nat.le_add_right _ _) (Nat.le_add_right _ _) ?_
        exact K hi sl sv mr mo mk mt mm me mw tx cl hl tl sp rd x y ur uo uk us ut uc um ue uq un_ zr zo zk zs zt zc zm ze zq zn_ ro rg hh S0 S1 (q)
      · obtain ⟨c_, hc, e3⟩ := okI_s hb (by decide)
        refine V.aload_n E dL_law_184 rfl rfl ?_
        refine V.aload_n E dL_law_185 rfl rfl ?_
        refine V.iload_n E dL_law_186 rfl rfl ?_
        refine V.iconst (v := nI (1)) E dL_law_187 (by decide) ?_
        refine V.iaddN E  dL_law_188 ?_
        refine V.sld (v := sc (i + 1)) E S (by omega) (rfl) dL_law_189 ?_
        refine V.if_eq (tgt := 197) E dL_law_190 (by decide) (fun h => absurd h hz) (fun _ => ?_)
        refine V.iconst (v := nI (bN true)) E dL_law_193 (by decide) ?_
        refine V.goto (tgt := 198) E dL_law_194 (by decide) ?_
        refine V.aload_n E dL_law_198 rfl rfl ?_
        refine V.iload_n E dL_law_199 rfl rfl ?_
        refine V.iconst (v := nI (2)) E dL_law_200 (by decide) ?_
        refine V.iaddN E  dL_law_201 ?_
        refine V.sld (v := nI (p_)) E S (by omega) (e2) dL_law_202 ?_
        refine V.aload_n E dL_law_203 rfl rfl ?_
        refine V.iload_n E dL_law_204 rfl rfl ?_
        refine V.iconst (v := nI (3)) E dL_law_205 (by decide) ?_
        refine V.iaddN E  dL_law_206 ?_
        refine V.sld (v := nI (c_)) E S (by omega) (e3) dL_law_207 ?_
        refine V.callV (C := RX4) E (c_X4_paint_t G ad (slA S0) (slA S1) x ha rg ro hl p_ c_ (q_o) (q_l) (q_x) (hp) (hc)) (bl [mdW G a (fla x) hi sl sv mr mo mk mt mm me mw tx cl hl tl sp rd, scW G (ad 2) y, vwW G (ad 3) ur uo uk us ut uc um ue uq un_, vwW G (ad 4) zr zo zk zs zt zc zm ze zq zn_, pdW G (ad 5) tx tl, slW G S0, slW G S1]) [] 0 4 rfl rfl rfl gL_law_X4_paint rfl ⟨rfl, hd_X4_paint⟩ ⟨⟨Nat.le_of_ble_eq_true rfl, Nat.le_of_ble_eq_true rfl⟩, rmL hkc rfl, rmS hks rfl⟩ rfl (Nat.le_of_ble_eq_true rfl) rfl dL_law_208 (pBs (n := 16) [gsW G ad (slA S0) (slA S1), mdW G a (fla x) hi sl sv mr mo mk mt mm me mw tx cl hl tl sp rd, scW G (ad 1) x, scW G (ad 2) y, vwW G (ad 3) ur uo uk us ut uc um ue uq un_, vwW G (ad 4) zr zo zk zs zt zc zm ze zq zn_, pdW G (ad 5) tx tl, hiW G (ad 6) ha ro hl, scW G (ha 0) (rg 0), scW G (ha 1) (rg 1), scW G (ha 2) (rg 2), scW G (ha 3) (rg 3), scW G (ha 4) (rg 4), scW G (ha 5) (rg 5), slW G S0, slW G S1] [0, 2, 7, 8, 9, 10, 11, 12, 13] [1, 3, 4, 5, 6, 14, 15] rfl (by decide)) (kc' := kc) (ks' := ks) rfl rfl (rwI (ws' := (bl [gsW G ad (slA S0) (slA S1), mdW G a (fla x) hi sl sv mr mo mk mt mm me mw tx cl hl tl sp rd, scW G (ad 1) (scS x, upN (scF x) p_ c_, x.2.2), scW G (ad 2) y, vwW G (ad 3) ur uo uk us ut uc um ue uq un_, vwW G (ad 4) zr zo zk zs zt zc zm ze zq zn_, pdW G (ad 5) tx tl, hiW G (ad 6) ha (onN ro hl) (hlN hl), scW G (ha 0) (rgu rg ((ro + hl) % 6) x 0), scW G (ha 1) (rgu rg ((ro + hl) % 6) x 1), scW G (ha 2) (rgu rg ((ro + hl) % 6) x 2), scW G (ha 3) (rgu rg ((ro + hl) % 6) x 3), scW G (ha 4) (rgu rg ((ro + hl) % 6) x 4), scW G (ha 5) (rgu rg ((ro + hl) % 6) x 5), slW G S0, slW G S1])) (pBs (n := 16) [gsW G ad (slA S0) (slA S1), mdW G a (fla x) hi sl sv mr mo mk mt mm me mw tx cl hl tl sp rd, scW G (ad 1) (scS x, upN (scF x) p_ c_, x.2.2), scW G (ad 2) y, vwW G (ad 3) ur uo uk us ut uc um ue uq un_, vwW G (ad 4) zr zo zk zs zt zc zm ze zq zn_, pdW G (ad 5) tx tl, hiW G (ad 6) ha (onN ro hl) (hlN hl), scW G (ha 0) (rgu rg ((ro + hl) % 6) x 0), scW G (ha 1) (rgu rg ((ro + hl) % 6) x 1), scW G (ha 2) (rgu rg ((ro + hl) % 6) x 2), scW G (ha 3) (rgu rg ((ro + hl) % 6) x 3), scW G (ha 4) (rgu rg ((ro + hl) % 6) x 4), scW G (ha 5) (rgu rg ((ro + hl) % 6) x 5), slW G S0, slW G S1] [0, 2, 7, 8, 9, 10, 11, 12, 13] [1, 3, 4, 5, 6, 14, 15] rfl (by decide)).symm ?_)
        refine V.aload_n E dL_law_211 rfl rfl ?_
        refine V.aload_n E dL_law_212 rfl rfl ?_
        refine V.iload_n E dL_law_213 rfl rfl ?_
        refine V.iconst (v := nI (1)) E dL_law_214 (by decide) ?_
        refine V.iaddN E  dL_law_215 ?_
        refine V.sld (v := sc (i + 1)) E S (by omega) (rfl) dL_law_216 ?_
        refine V.if_eq (tgt := 224) E dL_law_217 (by decide) (fun h => absurd h hz) (fun _ => ?_)
        refine V.iconst (v := nI (bN true)) E dL_law_220 (by decide) ?_
        refine V.goto (tgt := 225) E dL_law_221 (by decide) ?_
        refine V.aload_n E dL_law_225 rfl rfl ?_
        refine V.iload_n E dL_law_226 rfl rfl ?_
        refine V.iconst (v := nI (2)) E dL_law_227 (by decide) ?_
        refine V.iaddN E  dL_law_228 ?_
        refine V.sld (v := nI (p_)) E S (by omega) (e2) dL_law_229 ?_
        refine V.aload_n E dL_law_230 rfl rfl ?_
        refine V.iload_n E dL_law_231 rfl rfl ?_
        refine V.iconst (v := nI (3)) E dL_law_232 (by decide) ?_
        refine V.iaddN E  dL_law_233 ?_
        refine V.sld (v := nI (c_)) E S (by omega) (e3) dL_law_234 ?_
        refine V.callV (C := RX5) E (c_X5_paint_t G a hi sl sv mr mo mk mt mm me mw tx cl hl tl sp rd x hh p_ c_ (q_l) (q_H) (hp) (hc)) (bl [gsW G ad (slA S0) (slA S1), scW G (ad 1) (scS x, upN (scF x) p_ c_, x.2.2), scW G (ad 2) y, vwW G (ad 3) ur uo uk us ut uc um ue uq un_, vwW G (ad 4) zr zo zk zs zt zc zm ze zq zn_, pdW G (ad 5) tx tl, hiW G (ad 6) ha (onN ro hl) (hlN hl), scW G (ha 0) (rgu rg ((ro + hl) % 6) x 0), scW G (ha 1) (rgu rg ((ro + hl) % 6) x 1), scW G (ha 2) (rgu rg ((ro + hl) % 6) x 2), scW G (ha 3) (rgu rg ((ro + hl) % 6) x 3), scW G (ha 4) (rgu rg ((ro + hl) % 6) x 4), scW G (ha 5) (rgu rg ((ro + hl) % 6) x 5), slW G S0, slW G S1]) [.int (nI (scF x p_))] 2 5 rfl rfl rfl gL_law_X5_paint rfl ⟨rfl, hd_X5_paint⟩ ⟨⟨Nat.le_of_ble_eq_true rfl, Nat.le_of_ble_eq_true rfl⟩, rmL hkc rfl, rmS hks rfl⟩ rfl (Nat.le_of_ble_eq_true rfl) rfl dL_law_235 (pBs (n := 16) [gsW G ad (slA S0) (slA S1), mdW G a (fla x) hi sl sv mr mo mk mt mm me mw tx cl hl tl sp rd, scW G (ad 1) (scS x, upN (scF x) p_ c_, x.2.2), scW G (ad 2) y, vwW G (ad 3) ur uo uk us ut uc um ue uq un_, vwW G (ad 4) zr zo zk zs zt zc zm ze zq zn_, pdW G (ad 5) tx tl, hiW G (ad 6) ha (onN ro hl) (hlN hl), scW G (ha 0) (rgu rg ((ro + hl) % 6) x 0), scW G (ha 1) (rgu rg ((ro + hl) % 6) x 1), scW G (ha 2) (rgu rg ((ro + hl) % 6) x 2), scW G (ha 3) (rgu rg ((ro + hl) % 6) x 3), scW G (ha 4) (rgu rg ((ro + hl) % 6) x 4), scW G (ha 5) (rgu rg ((ro + hl) % 6) x 5), slW G S0, slW G S1] [1] [0, 2, 3, 4, 5, 6, 7, 8, 9, 10, 11, 12, 13, 14, 15] rfl (by decide)) (kc' := kc) (ks' := ks) rfl rfl (rxI (ws' := fun (g_235 : Nat → Nat) => (bl [gsW G ad (slA S0) (slA S1), mdW G a (fla (scS x, upN (scF x) p_ c_, x.2.2)) g_235 sl sv mr mo mk mt mm me mw tx cl (hlN hl) tl sp rd, scW G (ad 1) (scS x, upN (scF x) p_ c_, x.2.2), scW G (ad 2) y, vwW G (ad 3) ur uo uk us ut uc um ue uq un_, vwW G (ad 4) zr zo zk zs zt zc zm ze zq zn_, pdW G (ad 5) tx tl, hiW G (ad 6) ha (onN ro hl) (hlN hl), scW G (ha 0) (rgu rg ((ro + hl) % 6) x 0), scW G (ha 1) (rgu rg ((ro + hl) % 6) x 1), scW G (ha 2) (rgu rg ((ro + hl) % 6) x 2), scW G (ha 3) (rgu rg ((ro + hl) % 6) x 3), scW G (ha 4) (rgu rg ((ro + hl) % 6) x 4), scW G (ha 5) (rgu rg ((ro + hl) % 6) x 5), slW G S0, slW G S1])) (fun g_235 => (pBs (n := 16) [gsW G ad (slA S0) (slA S1), mdW G a (fla (scS x, upN (scF x) p_ c_, x.2.2)) g_235 sl sv mr mo mk mt mm me mw tx cl (hlN hl) tl sp rd, scW G (ad 1) (scS x, upN (scF x) p_ c_, x.2.2), scW G (ad 2) y, vwW G (ad 3) ur uo uk us ut uc um ue uq un_, vwW G (ad 4) zr zo zk zs zt zc zm ze zq zn_, pdW G (ad 5) tx tl, hiW G (ad 6) ha (onN ro hl) (hlN hl), scW G (ha 0) (rgu rg ((ro + hl) % 6) x 0), scW G (ha 1) (rgu rg ((ro + hl) % 6) x 1), scW G (ha 2) (rgu rg ((ro + hl) % 6) x 2), scW G (ha 3) (rgu rg ((ro + hl) % 6) x 3), scW G (ha 4) (rgu rg ((ro + hl) % 6) x 4), scW G (ha 5) (rgu rg ((ro + hl) % 6) x 5), slW G S0, slW G S1] [1] [0, 2, 3, 4, 5, 6, 7, 8, 9, 10, 11, 12, 13, 14, 15] rfl (by decide)).symm) (fun g_235 hf_235 => ?_))
        refine V.icmp_eq (tgt := 762) E dL_law_238 (by decide) (fun _ => ?_) (fun h => absurd rfl h)
        refine V.widen (k := kc + 5) (n := ks + 155) (Nat.le_add_right _ _) (Nat.le_add_right _ _) ?_
        exact K g_235 sl sv mr mo mk mt mm me mw tx cl (hlN hl) tl sp rd (scS x, upN (scF x) p_ c_, x.2.2) y ur uo uk us ut uc um ue uq un_ zr zo zk zs zt zc zm ze zq zn_ (onN ro hl) (rgu rg ((ro + hl) % 6) x) (hhN x hl hh) S0 S1 (LI.rem q (q_x.fr (upN_in q_x.f hc)) hf_235)
