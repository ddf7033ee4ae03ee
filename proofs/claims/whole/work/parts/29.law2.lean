/-! the law, case by case: fill, read -/
set_option maxRecDepth 100000 in
set_option maxHeartbeats 16000000 in
theorem lw_fill {G : VC} {A : Nat → Prop} {X : VX} (E : Ev G A X cL_law RL wsL_law 4) {b L : Nat} {sc : Nat → Int32} (S : SX A X b L sc) {i : Nat} (hi_ : i + 4 < L) {kc ks : Nat} (hkc : kc + 5 ≤ 600000) (hks : ks + 155 ≤ 7302250) {a : Nat → Nat} {ad ha : AD} (hi : Nat → Nat) (sl : Nat → Nat) (sv : Nat → Nat) (mr : Nat → Nat) (mo : Nat → Nat) (mk : Nat → Nat) (mt : Nat → Nat) (mm : Nat → Nat) (me : Nat → Nat) (mw : Nat → Nat) (tx : Nat → Nat) (cl : Nat → Int32) (hl : Nat) (tl : Nat) (sp : Nat) (rd : Nat) (x : SC) (y : SC) (ur : Nat → Nat) (uo : Nat → Nat) (uk : Nat → Nat) (us : Nat → Nat) (ut : Nat → Nat) (uc : Nat → Nat) (um : Nat → Nat) (ue : Nat → Nat) (uq : Nat → Nat) (un_ : Nat) (zr : Nat → Nat) (zo : Nat → Nat) (zk : Nat → Nat) (zs : Nat → Nat) (zt : Nat → Nat) (zc : Nat → Nat) (zm : Nat → Nat) (ze : Nat → Nat) (zq : Nat → Nat) (zn_ : Nat) (ro : Nat) (rg : Nat → SC) (hh : Nat → SC) (S0 : SLT) (S1 : SLT) (q : LI x hl tl ro rg hh hi sl sv tx S0 S1) (K : LK G A X (kc + 5) (ks + 155) b i a ad ha) : V G A X room_1 (bl [gsW G ad (sltA S0) (sltA S1), mdW G a (fla x) hi sl sv mr mo mk mt mm me mw tx cl hl tl sp rd, scW G (ad 1) x, scW G (ad 2) y, vwW G (ad 3) ur uo uk us ut uc um ue uq un_, vwW G (ad 4) zr zo zk zs zt zc zm ze zq zn_, pdW G (ad 5) tx tl, hiW G (ad 6) ha ro hl, scW G (ha 0) (rg 0), scW G (ha 1) (rg 1), scW G (ha 2) (rg 2), scW G (ha 3) (rg 3), scW G (ha 4) (rg 4), scW G (ha 5) (rg 5), sltW G S0, sltW G S1]) kc ks 243 [some (.ref b), some (.ref (ad 0 0)), some (.ref (a 0)), some (.int (nI (i)))] [] := by
  obtain ⟨q_x, q_l, q_o, q_r, q_R, q_H, q_t, q_0, q_1⟩ := id q
  by_cases hz : sc (i + 1) = 0
  · by_cases hb : (okI 48 (sc (i + 2)) && okI 48 (sc (i + 3))) = false
    · refine V.aload_n E dL_law_243 rfl rfl ?_
      refine V.aload_n E dL_law_244 rfl rfl ?_
      refine V.iload_n E dL_law_245 rfl rfl ?_
      refine V.iconst (v := nI (1)) E dL_law_246 (by decide) ?_
      refine V.iaddN E  dL_law_247 ?_
      refine V.sld (v := sc (i + 1)) E S (by omega) (rfl) dL_law_248 ?_
      refine V.if_eq (tgt := 256) E dL_law_249 (by decide) (fun _ => ?_) (fun h => absurd hz h)
      refine V.iconst (v := nI (bN false)) E dL_law_256 (by decide) ?_
      refine V.aload_n E dL_law_257 rfl rfl ?_
      refine V.iload_n E dL_law_258 rfl rfl ?_
      refine V.iconst (v := nI (2)) E dL_law_259 (by decide) ?_
      refine V.iaddN E  dL_law_260 ?_
      refine V.sld (v := sc (i + 2)) E S (by omega) (rfl) dL_law_261 ?_
      refine V.aload_n E dL_law_262 rfl rfl ?_
      refine V.iload_n E dL_law_263 rfl rfl ?_
      refine V.iconst (v := nI (3)) E dL_law_264 (by decide) ?_
      refine V.iaddN E  dL_law_265 ?_
      refine V.sld (v := sc (i + 3)) E S (by omega) (rfl) dL_law_266 ?_
      refine V.aload_n E dL_law_267 rfl rfl ?_
      refine V.iload_n E dL_law_268 rfl rfl ?_
      refine V.iconst (v := nI (4)) E dL_law_269 (by decide) ?_
      refine V.iaddN E  dL_law_270 ?_
      refine V.sld (v := sc (i + 4)) E S (by omega) (rfl) dL_law_271 ?_
      refine V.callV (C := RX4) E (c_X4_fill_bad G ad (sltA S0) (sltA S1) x (bN false) (sc (i + 2)) (sc (i + 3)) (sc (i + 4)) (hb)) (bl [mdW G a (fla x) hi sl sv mr mo mk mt mm me mw tx cl hl tl sp rd, scW G (ad 2) y, vwW G (ad 3) ur uo uk us ut uc um ue uq un_, vwW G (ad 4) zr zo zk zs zt zc zm ze zq zn_, pdW G (ad 5) tx tl, hiW G (ad 6) ha ro hl, scW G (ha 0) (rg 0), scW G (ha 1) (rg 1), scW G (ha 2) (rg 2), scW G (ha 3) (rg 3), scW G (ha 4) (rg 4), scW G (ha 5) (rg 5), sltW G S0, sltW G S1]) [] 0 4 rfl rfl rfl gL_law_X4_fill rfl ⟨rfl, hd_X4_fill⟩ ⟨⟨Nat.le_of_ble_eq_true rfl, Nat.le_of_ble_eq_true rfl⟩, rmL hkc rfl, rmS hks rfl⟩ rfl (Nat.le_of_ble_eq_true rfl) rfl dL_law_272 (pBs (n := 16) [gsW G ad (sltA S0) (sltA S1), mdW G a (fla x) hi sl sv mr mo mk mt mm me mw tx cl hl tl sp rd, scW G (ad 1) x, scW G (ad 2) y, vwW G (ad 3) ur uo uk us ut uc um ue uq un_, vwW G (ad 4) zr zo zk zs zt zc zm ze zq zn_, pdW G (ad 5) tx tl, hiW G (ad 6) ha ro hl, scW G (ha 0) (rg 0), scW G (ha 1) (rg 1), scW G (ha 2) (rg 2), scW G (ha 3) (rg 3), scW G (ha 4) (rg 4), scW G (ha 5) (rg 5), sltW G S0, sltW G S1] [0, 2] [1, 3, 4, 5, 6, 7, 8, 9, 10, 11, 12, 13, 14, 15] rfl (by decide)) (kc' := kc) (ks' := ks) rfl rfl (rwI (ws' := (bl [gsW G ad (sltA S0) (sltA S1), mdW G a (fla x) hi sl sv mr mo mk mt mm me mw tx cl hl tl sp rd, scW G (ad 1) x, scW G (ad 2) y, vwW G (ad 3) ur uo uk us ut uc um ue uq un_, vwW G (ad 4) zr zo zk zs zt zc zm ze zq zn_, pdW G (ad 5) tx tl, hiW G (ad 6) ha ro hl, scW G (ha 0) (rg 0), scW G (ha 1) (rg 1), scW G (ha 2) (rg 2), scW G (ha 3) (rg 3), scW G (ha 4) (rg 4), scW G (ha 5) (rg 5), sltW G S0, sltW G S1])) (pBs (n := 16) [gsW G ad (sltA S0) (sltA S1), mdW G a (fla x) hi sl sv mr mo mk mt mm me mw tx cl hl tl sp rd, scW G (ad 1) x, scW G (ad 2) y, vwW G (ad 3) ur uo uk us ut uc um ue uq un_, vwW G (ad 4) zr zo zk zs zt zc zm ze zq zn_, pdW G (ad 5) tx tl, hiW G (ad 6) ha ro hl, scW G (ha 0) (rg 0), scW G (ha 1) (rg 1), scW G (ha 2) (rg 2), scW G (ha 3) (rg 3), scW G (ha 4) (rg 4), scW G (ha 5) (rg 5), sltW G S0, sltW G S1] [0, 2] [1, 3, 4, 5, 6, 7, 8, 9, 10, 11, 12, 13, 14, 15] rfl (by decide)).symm ?_)
      refine V.aload_n E dL_law_275 rfl rfl ?_
      refine V.aload_n E dL_law_276 rfl rfl ?_
      refine V.iload_n E dL_law_277 rfl rfl ?_
      refine V.iconst (v := nI (1)) E dL_law_278 (by decide) ?_
      refine V.iaddN E  dL_law_279 ?_
      refine V.sld (v := sc (i + 1)) E S (by omega) (rfl) dL_law_280 ?_
      refine V.if_eq (tgt := 288) E dL_law_281 (by decide) (fun _ => ?_) (fun h => absurd hz h)
      refine V.iconst (v := nI (bN false)) E dL_law_288 (by decide) ?_
      refine V.aload_n E dL_law_289 rfl rfl ?_
      refine V.iload_n E dL_law_290 rfl rfl ?_
      refine V.iconst (v := nI (2)) E dL_law_291 (by decide) ?_
      refine V.iaddN E  dL_law_292 ?_
      refine V.sld (v := sc (i + 2)) E S (by omega) (rfl) dL_law_293 ?_
      refine V.aload_n E dL_law_294 rfl rfl ?_
      refine V.iload_n E dL_law_295 rfl rfl ?_
      refine V.iconst (v := nI (3)) E dL_law_296 (by decide) ?_
      refine V.iaddN E  dL_law_297 ?_
      refine V.sld (v := sc (i + 3)) E S (by omega) (rfl) dL_law_298 ?_
      refine V.aload_n E dL_law_299 rfl rfl ?_
      refine V.iload_n E dL_law_300 rfl rfl ?_
      refine V.iconst (v := nI (4)) E dL_law_301 (by decide) ?_
      refine V.iaddN E  dL_law_302 ?_
      refine V.sld (v := sc (i + 4)) E S (by omega) (rfl) dL_law_303 ?_
      refine V.callV (C := RX5) E (c_X5_fill_bad G a hi sl sv mr mo mk mt mm me mw tx cl hl tl sp rd x (bN false) (sc (i + 2)) (sc (i + 3)) (sc (i + 4)) (hb)) (bl [gsW G ad (sltA S0) (sltA S1), scW G (ad 1) x, scW G (ad 2) y, vwW G (ad 3) ur uo uk us ut uc um ue uq un_, vwW G (ad 4) zr zo zk zs zt zc zm ze zq zn_, pdW G (ad 5) tx tl, hiW G (ad 6) ha ro hl, scW G (ha 0) (rg 0), scW G (ha 1) (rg 1), scW G (ha 2) (rg 2), scW G (ha 3) (rg 3), scW G (ha 4) (rg 4), scW G (ha 5) (rg 5), sltW G S0, sltW G S1]) [.int ((-1 : Int32))] 2 5 rfl rfl rfl gL_law_X5_fill rfl ⟨rfl, hd_X5_fill⟩ ⟨⟨Nat.le_of_ble_eq_true rfl, Nat.le_of_ble_eq_true rfl⟩, rmL hkc rfl, rmS hks rfl⟩ rfl (Nat.le_of_ble_eq_true rfl) rfl dL_law_304 (pBs (n := 16) [gsW G ad (sltA S0) (sltA S1), mdW G a (fla x) hi sl sv mr mo mk mt mm me mw tx cl hl tl sp rd, scW G (ad 1) x, scW G (ad 2) y, vwW G (ad 3) ur uo uk us ut uc um ue uq un_, vwW G (ad 4) zr zo zk zs zt zc zm ze zq zn_, pdW G (ad 5) tx tl, hiW G (ad 6) ha ro hl, scW G (ha 0) (rg 0), scW G (ha 1) (rg 1), scW G (ha 2) (rg 2), scW G (ha 3) (rg 3), scW G (ha 4) (rg 4), scW G (ha 5) (rg 5), sltW G S0, sltW G S1] [1] [0, 2, 3, 4, 5, 6, 7, 8, 9, 10, 11, 12, 13, 14, 15] rfl (by decide)) (kc' := kc) (ks' := ks) rfl rfl (rwI (ws' := (bl [gsW G ad (sltA S0) (sltA S1), mdW G a (fla x) hi sl sv mr mo mk mt mm me mw tx cl hl tl sp rd, scW G (ad 1) x, scW G (ad 2) y, vwW G (ad 3) ur uo uk us ut uc um ue uq un_, vwW G (ad 4) zr zo zk zs zt zc zm ze zq zn_, pdW G (ad 5) tx tl, hiW G (ad 6) ha ro hl, scW G (ha 0) (rg 0), scW G (ha 1) (rg 1), scW G (ha 2) (rg 2), scW G (ha 3) (rg 3), scW G (ha 4) (rg 4), scW G (ha 5) (rg 5), sltW G S0, sltW G S1])) (pBs (n := 16) [gsW G ad (sltA S0) (sltA S1), mdW G a (fla x) hi sl sv mr mo mk mt mm me mw tx cl hl tl sp rd, scW G (ad 1) x, scW G (ad 2) y, vwW G (ad 3) ur uo uk us ut uc um ue uq un_, vwW G (ad 4) zr zo zk zs zt zc zm ze zq zn_, pdW G (ad 5) tx tl, hiW G (ad 6) ha ro hl, scW G (ha 0) (rg 0), scW G (ha 1) (rg 1), scW G (ha 2) (rg 2), scW G (ha 3) (rg 3), scW G (ha 4) (rg 4), scW G (ha 5) (rg 5), sltW G S0, sltW G S1] [1] [0, 2, 3, 4, 5, 6, 7, 8, 9, 10, 11, 12, 13, 14, 15] rfl (by decide)).symm ?_)
      refine V.icmp_eq (tgt := 762) E dL_law_307 (by decide) (fun _ => ?_) (fun h => absurd rfl h)
      refine V.widen (k := kc + 5) (n := ks + 155) (Nat.le_add_right _ _) (Nat.le_add_right _ _) ?_
      exact K hi sl sv mr mo mk mt mm me mw tx cl hl tl sp rd x y ur uo uk us ut uc um ue uq un_ zr zo zk zs zt zc zm ze zq zn_ ro rg hh S0 S1 (q)
    · obtain ⟨p_, r_, hp, hr_, e2, e3⟩ := okI2_s hb (by decide) (by decide)
      by_cases hb : okI 4096 (sc (i + 4)) = false
      · refine V.aload_n E dL_law_243 rfl rfl ?_
        refine V.aload_n E dL_law_244 rfl rfl ?_
        refine V.iload_n E dL_law_245 rfl rfl ?_
        refine V.iconst (v := nI (1)) E dL_law_246 (by decide) ?_
        refine V.iaddN E  dL_law_247 ?_
        refine V.sld (v := sc (i + 1)) E S (by omega) (rfl) dL_law_248 ?_
        refine V.if_eq (tgt := 256) E dL_law_249 (by decide) (fun _ => ?_) (fun h => absurd hz h)
        refine V.iconst (v := nI (bN false)) E dL_law_256 (by decide) ?_
        refine V.aload_n E dL_law_257 rfl rfl ?_
        refine V.iload_n E dL_law_258 rfl rfl ?_
        refine V.iconst (v := nI (2)) E dL_law_259 (by decide) ?_
        refine V.iaddN E  dL_law_260 ?_
        refine V.sld (v := nI (p_)) E S (by omega) (e2) dL_law_261 ?_
        refine V.aload_n E dL_law_262 rfl rfl ?_
        refine V.iload_n E dL_law_263 rfl rfl ?_
        refine V.iconst (v := nI (3)) E dL_law_264 (by decide) ?_
        refine V.iaddN E  dL_law_265 ?_
        refine V.sld (v := nI (r_)) E S (by omega) (e3) dL_law_266 ?_
        refine V.aload_n E dL_law_267 rfl rfl ?_
        refine V.iload_n E dL_law_268 rfl rfl ?_
        refine V.iconst (v := nI (4)) E dL_law_269 (by decide) ?_
        refine V.iaddN E  dL_law_270 ?_
        refine V.sld (v := sc (i + 4)) E S (by omega) (rfl) dL_law_271 ?_
        refine V.callV (C := RX4) E (c_X4_fill_bc G ad (sltA S0) (sltA S1) x (bN false) p_ r_ (sc (i + 4)) (hp) (hr_) (hb)) (bl [mdW G a (fla x) hi sl sv mr mo mk mt mm me mw tx cl hl tl sp rd, scW G (ad 2) y, vwW G (ad 3) ur uo uk us ut uc um ue uq un_, vwW G (ad 4) zr zo zk zs zt zc zm ze zq zn_, pdW G (ad 5) tx tl, hiW G (ad 6) ha ro hl, scW G (ha 0) (rg 0), scW G (ha 1) (rg 1), scW G (ha 2) (rg 2), scW G (ha 3) (rg 3), scW G (ha 4) (rg 4), scW G (ha 5) (rg 5), sltW G S0, sltW G S1]) [] 0 4 rfl rfl rfl gL_law_X4_fill rfl ⟨rfl, hd_X4_fill⟩ ⟨⟨Nat.le_of_ble_eq_true rfl, Nat.le_of_ble_eq_true rfl⟩, rmL hkc rfl, rmS hks rfl⟩ rfl (Nat.le_of_ble_eq_true rfl) rfl dL_law_272 (pBs (n := 16) [gsW G ad (sltA S0) (sltA S1), mdW G a (fla x) hi sl sv mr mo mk mt mm me mw tx cl hl tl sp rd, scW G (ad 1) x, scW G (ad 2) y, vwW G (ad 3) ur uo uk us ut uc um ue uq un_, vwW G (ad 4) zr zo zk zs zt zc zm ze zq zn_, pdW G (ad 5) tx tl, hiW G (ad 6) ha ro hl, scW G (ha 0) (rg 0), scW G (ha 1) (rg 1), scW G (ha 2) (rg 2), scW G (ha 3) (rg 3), scW G (ha 4) (rg 4), scW G (ha 5) (rg 5), sltW G S0, sltW G S1] [0, 2] [1, 3, 4, 5, 6, 7, 8, 9, 10, 11, 12, 13, 14, 15] rfl (by decide)) (kc' := kc) (ks' := ks) rfl rfl (rwI (ws' := (bl [gsW G ad (sltA S0) (sltA S1), mdW G a (fla x) hi sl sv mr mo mk mt mm me mw tx cl hl tl sp rd, scW G (ad 1) x, scW G (ad 2) y, vwW G (ad 3) ur uo uk us ut uc um ue uq un_, vwW G (ad 4) zr zo zk zs zt zc zm ze zq zn_, pdW G (ad 5) tx tl, hiW G (ad 6) ha ro hl, scW G (ha 0) (rg 0), scW G (ha 1) (rg 1), scW G (ha 2) (rg 2), scW G (ha 3) (rg 3), scW G (ha 4) (rg 4), scW G (ha 5) (rg 5), sltW G S0, sltW G S1])) (pBs (n := 16) [gsW G ad (sltA S0) (sltA S1), mdW G a (fla x) hi sl sv mr mo mk mt mm me mw tx cl hl tl sp rd, scW G (ad 1) x, scW G (ad 2) y, vwW G (ad 3) ur uo uk us ut uc um ue uq un_, vwW G (ad 4) zr zo zk zs zt zc zm ze zq zn_, pdW G (ad 5) tx tl, hiW G (ad 6) ha ro hl, scW G (ha 0) (rg 0), scW G (ha 1) (rg 1), scW G (ha 2) (rg 2), scW G (ha 3) (rg 3), scW G (ha 4) (rg 4), scW G (ha 5) (rg 5), sltW G S0, sltW G S1] [0, 2] [1, 3, 4, 5, 6, 7, 8, 9, 10, 11, 12, 13, 14, 15] rfl (by decide)).symm ?_)
        refine V.aload_n E dL_law_275 rfl rfl ?_
        refine V.aload_n E dL_law_276 rfl rfl ?_
        refine V.iload_n E dL_law_277 rfl rfl ?_
        refine V.iconst (v := nI (1)) E dL_law_278 (by decide) ?_
        refine V.iaddN E  dL_law_279 ?_
        refine V.sld (v := sc (i + 1)) E S (by omega) (rfl) dL_law_280 ?_
        refine V.if_eq (tgt := 288) E dL_law_281 (by decide) (fun _ => ?_) (fun h => absurd hz h)
        refine V.iconst (v := nI (bN false)) E dL_law_288 (by decide) ?_
        refine V.aload_n E dL_law_289 rfl rfl ?_
        refine V.iload_n E dL_law_290 rfl rfl ?_
        refine V.iconst (v := nI (2)) E dL_law_291 (by decide) ?_
        refine V.iaddN E  dL_law_292 ?_
        refine V.sld (v := nI (p_)) E S (by omega) (e2) dL_law_293 ?_
        refine V.aload_n E dL_law_294 rfl rfl ?_
        refine V.iload_n E dL_law_295 rfl rfl ?_
        refine V.iconst (v := nI (3)) E dL_law_296 (by decide) ?_
        refine V.iaddN E  dL_law_297 ?_
        refine V.sld (v := nI (r_)) E S (by omega) (e3) dL_law_298 ?_
        refine V.aload_n E dL_law_299 rfl rfl ?_
        refine V.iload_n E dL_law_300 rfl rfl ?_
        refine V.iconst (v := nI (4)) E dL_law_301 (by decide) ?_
        refine V.iaddN E  dL_law_302 ?_
        refine V.sld (v := sc (i + 4)) E S (by omega) (rfl) dL_law_303 ?_
        refine V.callV (C := RX5) E (c_X5_fill_bc G a hi sl sv mr mo mk mt mm me mw tx cl hl tl sp rd x (bN false) p_ r_ (sc (i + 4)) (hp) (hr_) (hb)) (bl [gsW G ad (sltA S0) (sltA S1), scW G (ad 1) x, scW G (ad 2) y, vwW G (ad 3) ur uo uk us ut uc um ue uq un_, vwW G (ad 4) zr zo zk zs zt zc zm ze zq zn_, pdW G (ad 5) tx tl, hiW G (ad 6) ha ro hl, scW G (ha 0) (rg 0), scW G (ha 1) (rg 1), scW G (ha 2) (rg 2), scW G (ha 3) (rg 3), scW G (ha 4) (rg 4), scW G (ha 5) (rg 5), sltW G S0, sltW G S1]) [.int ((-2 : Int32))] 2 5 rfl rfl rfl gL_law_X5_fill rfl ⟨rfl, hd_X5_fill⟩ ⟨⟨Nat.le_of_ble_eq_true rfl, Nat.le_of_ble_eq_true rfl⟩, rmL hkc rfl, rmS hks rfl⟩ rfl (Nat.le_of_ble_eq_true rfl) rfl dL_law_304 (pBs (n := 16) [gsW G ad (sltA S0) (sltA S1), mdW G a (fla x) hi sl sv mr mo mk mt mm me mw tx cl hl tl sp rd, scW G (ad 1) x, scW G (ad 2) y, vwW G (ad 3) ur uo uk us ut uc um ue uq un_, vwW G (ad 4) zr zo zk zs zt zc zm ze zq zn_, pdW G (ad 5) tx tl, hiW G (ad 6) ha ro hl, scW G (ha 0) (rg 0), scW G (ha 1) (rg 1), scW G (ha 2) (rg 2), scW G (ha 3) (rg 3), scW G (ha 4) (rg 4), scW G (ha 5) (rg 5), sltW G S0, sltW G S1] [1] [0, 2, 3, 4, 5, 6, 7, 8, 9, 10, 11, 12, 13, 14, 15] rfl (by decide)) (kc' := kc) (ks' := ks) rfl rfl (rwI (ws' := (bl [gsW G ad (sltA S0) (sltA S1), mdW G a (fla x) hi sl sv mr mo mk mt mm me mw tx cl hl tl sp rd, scW G (ad 1) x, scW G (ad 2) y, vwW G (ad 3) ur uo uk us ut uc um ue uq un_, vwW G (ad 4) zr zo zk zs zt zc zm ze zq zn_, pdW G (ad 5) tx tl, hiW G (ad 6) ha ro hl, scW G (ha 0) (rg 0), scW G (ha 1) (rg 1), scW G (ha 2) (rg 2), scW G (ha 3) (rg 3), scW G (ha 4) (rg 4), scW G (ha 5) (rg 5), sltW G S0, sltW G S1])) (pBs (n := 16) [gsW G ad (sltA S0) (sltA S1), mdW G a (fla x) hi sl sv mr mo mk mt mm me mw tx cl hl tl sp rd, scW G (ad 1) x, scW G (ad 2) y, vwW G (ad 3) ur uo uk us ut uc um ue uq un_, vwW G (ad 4) zr zo zk zs zt zc zm ze zq zn_, pdW G (ad 5) tx tl, hiW G (ad 6) ha ro hl, scW G (ha 0) (rg 0), scW G (ha 1) (rg 1), scW G (ha 2) (rg 2), scW G (ha 3) (rg 3), scW G (ha 4) (rg 4), scW G (ha 5) (rg 5), sltW G S0, sltW G S1] [1] [0, 2, 3, 4, 5, 6, 7, 8, 9, 10, 11, 12, 13, 14, 15] rfl (by decide)).symm ?_)
        refine V.icmp_eq (tgt := 762) E dL_law_307 (by decide) (fun _ => ?_) (fun h => absurd rfl h)
        refine V.widen (k := kc + 5) (n := ks + 155) (Nat.le_add_right _ _) (Nat.le_add_right _ _) ?_
        exact K hi sl sv mr mo mk mt mm me mw tx cl hl tl sp rd x y ur uo uk us ut uc um ue uq un_ zr zo zk zs zt zc zm ze zq zn_ ro rg hh S0 S1 (q)
      · obtain ⟨c_, hc, e4⟩ := okI_s hb (by decide)
        refine V.aload_n E dL_law_243 rfl rfl ?_
        refine V.aload_n E dL_law_244 rfl rfl ?_
        refine V.iload_n E dL_law_245 rfl rfl ?_
        refine V.iconst (v := nI (1)) E dL_law_246 (by decide) ?_
        refine V.iaddN E  dL_law_247 ?_
        refine V.sld (v := sc (i + 1)) E S (by omega) (rfl) dL_law_248 ?_
        refine V.if_eq (tgt := 256) E dL_law_249 (by decide) (fun _ => ?_) (fun h => absurd hz h)
        refine V.iconst (v := nI (bN false)) E dL_law_256 (by decide) ?_
        refine V.aload_n E dL_law_257 rfl rfl ?_
        refine V.iload_n E dL_law_258 rfl rfl ?_
        refine V.iconst (v := nI (2)) E dL_law_259 (by decide) ?_
        refine V.iaddN E  dL_law_260 ?_
        refine V.sld (v := nI (p_)) E S (by omega) (e2) dL_law_261 ?_
        refine V.aload_n E dL_law_262 rfl rfl ?_
        refine V.iload_n E dL_law_263 rfl rfl ?_
        refine V.iconst (v := nI (3)) E dL_law_264 (by decide) ?_
        refine V.iaddN E  dL_law_265 ?_
        refine V.sld (v := nI (r_)) E S (by omega) (e3) dL_law_266 ?_
        refine V.aload_n E dL_law_267 rfl rfl ?_
        refine V.iload_n E dL_law_268 rfl rfl ?_
        refine V.iconst (v := nI (4)) E dL_law_269 (by decide) ?_
        refine V.iaddN E  dL_law_270 ?_
        refine V.sld (v := nI (c_)) E S (by omega) (e4) dL_law_271 ?_
        refine V.callV (C := RX4) E (c_X4_fill_f G ad (sltA S0) (sltA S1) x ha rg ro hl p_ r_ c_ (q_o) (q_l) (q_x) (hp) (hr_) (hc)) (bl [mdW G a (fla x) hi sl sv mr mo mk mt mm me mw tx cl hl tl sp rd, scW G (ad 2) y, vwW G (ad 3) ur uo uk us ut uc um ue uq un_, vwW G (ad 4) zr zo zk zs zt zc zm ze zq zn_, pdW G (ad 5) tx tl, sltW G S0, sltW G S1]) [] 0 4 rfl rfl rfl gL_law_X4_fill rfl ⟨rfl, hd_X4_fill⟩ ⟨⟨Nat.le_of_ble_eq_true rfl, Nat.le_of_ble_eq_true rfl⟩, rmL hkc rfl, rmS hks rfl⟩ rfl (Nat.le_of_ble_eq_true rfl) rfl dL_law_272 (pBs (n := 16) [gsW G ad (sltA S0) (sltA S1), mdW G a (fla x) hi sl sv mr mo mk mt mm me mw tx cl hl tl sp rd, scW G (ad 1) x, scW G (ad 2) y, vwW G (ad 3) ur uo uk us ut uc um ue uq un_, vwW G (ad 4) zr zo zk zs zt zc zm ze zq zn_, pdW G (ad 5) tx tl, hiW G (ad 6) ha ro hl, scW G (ha 0) (rg 0), scW G (ha 1) (rg 1), scW G (ha 2) (rg 2), scW G (ha 3) (rg 3), scW G (ha 4) (rg 4), scW G (ha 5) (rg 5), sltW G S0, sltW G S1] [0, 2, 7, 8, 9, 10, 11, 12, 13] [1, 3, 4, 5, 6, 14, 15] rfl (by decide)) (kc' := kc) (ks' := ks) rfl rfl (rwI (ws' := (bl [gsW G ad (sltA S0) (sltA S1), mdW G a (fla x) hi sl sv mr mo mk mt mm me mw tx cl hl tl sp rd, scW G (ad 1) (scS x, scF x, filR p_ r_ c_ (scB x), x.2.2.2), scW G (ad 2) y, vwW G (ad 3) ur uo uk us ut uc um ue uq un_, vwW G (ad 4) zr zo zk zs zt zc zm ze zq zn_, pdW G (ad 5) tx tl, hiW G (ad 6) ha (onN ro hl) (hlN hl), scW G (ha 0) (rgu rg ((ro + hl) % 6) x 0), scW G (ha 1) (rgu rg ((ro + hl) % 6) x 1), scW G (ha 2) (rgu rg ((ro + hl) % 6) x 2), scW G (ha 3) (rgu rg ((ro + hl) % 6) x 3), scW G (ha 4) (rgu rg ((ro + hl) % 6) x 4), scW G (ha 5) (rgu rg ((ro + hl) % 6) x 5), sltW G S0, sltW G S1])) (pBs (n := 16) [gsW G ad (sltA S0) (sltA S1), mdW G a (fla x) hi sl sv mr mo mk mt mm me mw tx cl hl tl sp rd, scW G (ad 1) (scS x, scF x, filR p_ r_ c_ (scB x), x.2.2.2), scW G (ad 2) y, vwW G (ad 3) ur uo uk us ut uc um ue uq un_, vwW G (ad 4) zr zo zk zs zt zc zm ze zq zn_, pdW G (ad 5) tx tl, hiW G (ad 6) ha (onN ro hl) (hlN hl), scW G (ha 0) (rgu rg ((ro + hl) % 6) x 0), scW G (ha 1) (rgu rg ((ro + hl) % 6) x 1), scW G (ha 2) (rgu rg ((ro + hl) % 6) x 2), scW G (ha 3) (rgu rg ((ro + hl) % 6) x 3), scW G (ha 4) (rgu rg ((ro + hl) % 6) x 4), scW G (ha 5) (rgu rg ((ro + hl) % 6) x 5), sltW G S0, sltW G S1] [0, 2, 7, 8, 9, 10, 11, 12, 13] [1, 3, 4, 5, 6, 14, 15] rfl (by decide)).symm ?_)
        refine V.aload_n E dL_law_275 rfl rfl ?_
        refine V.aload_n E dL_law_276 rfl rfl ?_
        refine V.iload_n E dL_law_277 rfl rfl ?_
        refine V.iconst (v := nI (1)) E dL_law_278 (by decide) ?_
        refine V.iaddN E  dL_law_279 ?_
        refine V.sld (v := sc (i + 1)) E S (by omega) (rfl) dL_law_280 ?_
        refine V.if_eq (tgt := 288) E dL_law_281 (by decide) (fun _ => ?_) (fun h => absurd hz h)
        refine V.iconst (v := nI (bN false)) E dL_law_288 (by decide) ?_
        refine V.aload_n E dL_law_289 rfl rfl ?_
        refine V.iload_n E dL_law_290 rfl rfl ?_
        refine V.iconst (v := nI (2)) E dL_law_291 (by decide) ?_
        refine V.iaddN E  dL_law_292 ?_
        refine V.sld (v := nI (p_)) E S (by omega) (e2) dL_law_293 ?_
        refine V.aload_n E dL_law_294 rfl rfl ?_
        refine V.iload_n E dL_law_295 rfl rfl ?_
        refine V.iconst (v := nI (3)) E dL_law_296 (by decide) ?_
        refine V.iaddN E  dL_law_297 ?_
        refine V.sld (v := nI (r_)) E S (by omega) (e3) dL_law_298 ?_
        refine V.aload_n E dL_law_299 rfl rfl ?_
        refine V.iload_n E dL_law_300 rfl rfl ?_
        refine V.iconst (v := nI (4)) E dL_law_301 (by decide) ?_
        refine V.iaddN E  dL_law_302 ?_
        refine V.sld (v := nI (c_)) E S (by omega) (e4) dL_law_303 ?_
        refine V.callV (C := RX5) E (c_X5_fill_f G a hi sl sv mr mo mk mt mm me mw tx cl hl tl sp rd x hh p_ r_ c_ (q_l) (q_H) (hp) (hr_) (hc)) (bl [gsW G ad (sltA S0) (sltA S1), scW G (ad 1) (scS x, scF x, filR p_ r_ c_ (scB x), x.2.2.2), scW G (ad 2) y, vwW G (ad 3) ur uo uk us ut uc um ue uq un_, vwW G (ad 4) zr zo zk zs zt zc zm ze zq zn_, pdW G (ad 5) tx tl, hiW G (ad 6) ha (onN ro hl) (hlN hl), scW G (ha 0) (rgu rg ((ro + hl) % 6) x 0), scW G (ha 1) (rgu rg ((ro + hl) % 6) x 1), scW G (ha 2) (rgu rg ((ro + hl) % 6) x 2), scW G (ha 3) (rgu rg ((ro + hl) % 6) x 3), scW G (ha 4) (rgu rg ((ro + hl) % 6) x 4), scW G (ha 5) (rgu rg ((ro + hl) % 6) x 5), sltW G S0, sltW G S1]) [.int (nI (sumN 48 (fun j => bN (inR p_ r_ j))))] 2 5 rfl rfl rfl gL_law_X5_fill rfl ⟨rfl, hd_X5_fill⟩ ⟨⟨Nat.le_of_ble_eq_true rfl, Nat.le_of_ble_eq_true rfl⟩, rmL hkc rfl, rmS hks rfl⟩ rfl (Nat.le_of_ble_eq_true rfl) rfl dL_law_304 (pBs (n := 16) [gsW G ad (sltA S0) (sltA S1), mdW G a (fla x) hi sl sv mr mo mk mt mm me mw tx cl hl tl sp rd, scW G (ad 1) (scS x, scF x, filR p_ r_ c_ (scB x), x.2.2.2), scW G (ad 2) y, vwW G (ad 3) ur uo uk us ut uc um ue uq un_, vwW G (ad 4) zr zo zk zs zt zc zm ze zq zn_, pdW G (ad 5) tx tl, hiW G (ad 6) ha (onN ro hl) (hlN hl), scW G (ha 0) (rgu rg ((ro + hl) % 6) x 0), scW G (ha 1) (rgu rg ((ro + hl) % 6) x 1), scW G (ha 2) (rgu rg ((ro + hl) % 6) x 2), scW G (ha 3) (rgu rg ((ro + hl) % 6) x 3), scW G (ha 4) (rgu rg ((ro + hl) % 6) x 4), scW G (ha 5) (rgu rg ((ro + hl) % 6) x 5), sltW G S0, sltW G S1] [1] [0, 2, 3, 4, 5, 6, 7, 8, 9, 10, 11, 12, 13, 14, 15] rfl (by decide)) (kc' := kc) (ks' := ks) rfl rfl (rxI (ws' := fun (g_304 : Nat → Nat) => (bl [gsW G ad (sltA S0) (sltA S1), mdW G a (fla (scS x, scF x, filR p_ r_ c_ (scB x), x.2.2.2)) g_304 sl sv mr mo mk mt mm me mw tx cl (hlN hl) tl sp rd, scW G (ad 1) (scS x, scF x, filR p_ r_ c_ (scB x), x.2.2.2), scW G (ad 2) y, vwW G (ad 3) ur uo uk us ut uc um ue uq un_, vwW G (ad 4) zr zo zk zs zt zc zm ze zq zn_, pdW G (ad 5) tx tl, hiW G (ad 6) ha (onN ro hl) (hlN hl), scW G (ha 0) (rgu rg ((ro + hl) % 6) x 0), scW G (ha 1) (rgu rg ((ro + hl) % 6) x 1), scW G (ha 2) (rgu rg ((ro + hl) % 6) x 2), scW G (ha 3) (rgu rg ((ro + hl) % 6) x 3), scW G (ha 4) (rgu rg ((ro + hl) % 6) x 4), scW G (ha 5) (rgu rg ((ro + hl) % 6) x 5), sltW G S0, sltW G S1])) (fun g_304 => (pBs (n := 16) [gsW G ad (sltA S0) (sltA S1), mdW G a (fla (scS x, scF x, filR p_ r_ c_ (scB x), x.2.2.2)) g_304 sl sv mr mo mk mt mm me mw tx cl (hlN hl) tl sp rd, scW G (ad 1) (scS x, scF x, filR p_ r_ c_ (scB x), x.2.2.2), scW G (ad 2) y, vwW G (ad 3) ur uo uk us ut uc um ue uq un_, vwW G (ad 4) zr zo zk zs zt zc zm ze zq zn_, pdW G (ad 5) tx tl, hiW G (ad 6) ha (onN ro hl) (hlN hl), scW G (ha 0) (rgu rg ((ro + hl) % 6) x 0), scW G (ha 1) (rgu rg ((ro + hl) % 6) x 1), scW G (ha 2) (rgu rg ((ro + hl) % 6) x 2), scW G (ha 3) (rgu rg ((ro + hl) % 6) x 3), scW G (ha 4) (rgu rg ((ro + hl) % 6) x 4), scW G (ha 5) (rgu rg ((ro + hl) % 6) x 5), sltW G S0, sltW G S1] [1] [0, 2, 3, 4, 5, 6, 7, 8, 9, 10, 11, 12, 13, 14, 15] rfl (by decide)).symm) (fun g_304 hf_304 => ?_))
        refine V.icmp_eq (tgt := 762) E dL_law_307 (by decide) (fun _ => ?_) (fun h => absurd rfl h)
        refine V.widen (k := kc + 5) (n := ks + 155) (Nat.le_add_right _ _) (Nat.le_add_right _ _) ?_
        exact K g_304 sl sv mr mo mk mt mm me mw tx cl (hlN hl) tl sp rd (scS x, scF x, filR p_ r_ c_ (scB x), x.2.2.2) y ur uo uk us ut uc um ue uq un_ zr zo zk zs zt zc zm ze zq zn_ (onN ro hl) (rgu rg ((ro + hl) % 6) x) (hhN x hl hh) S0 S1 (LI.rem q (q_x.bk (filR_in q_x.b hc)) hf_304)
  · by_cases hb : (okI 48 (sc (i + 2)) && okI 48 (sc (i + 3))) = false
    · refine V.aload_n E dL_law_243 rfl rfl ?_
      refine V.aload_n E dL_law_244 rfl rfl ?_
      refine V.iload_n E dL_law_245 rfl rfl ?_
      refine V.iconst (v := nI (1)) E dL_law_246 (by decide) ?_
      refine V.iaddN E  dL_law_247 ?_
      refine V.sld (v := sc (i + 1)) E S (by omega) (rfl) dL_law_248 ?_
      refine V.if_eq (tgt := 256) E dL_law_249 (by decide) (fun h => absurd h hz) (fun _ => ?_)
      refine V.iconst (v := nI (bN true)) E dL_law_252 (by decide) ?_
      refine V.goto (tgt := 257) E dL_law_253 (by decide) ?_
      refine V.aload_n E dL_law_257 rfl rfl ?_
      refine V.iload_n E dL_law_258 rfl rfl ?_
      refine V.iconst (v := nI (2)) E dL_law_259 (by decide) ?_
      refine V.iaddN E  dL_law_260 ?_
      refine V.sld (v := sc (i + 2)) E S (by omega) (rfl) dL_law_261 ?_
      refine V.aload_n E dL_law_262 rfl rfl ?_
      refine V.iload_n E dL_law_263 rfl rfl ?_
      refine V.iconst (v := nI (3)) E dL_law_264 (by decide) ?_
      refine V.iaddN E  dL_law_265 ?_
      refine V.sld (v := sc (i + 3)) E S (by omega) (rfl) dL_law_266 ?_
      refine V.aload_n E dL_law_267 rfl rfl ?_
      refine V.iload_n E dL_law_268 rfl rfl ?_
      refine V.iconst (v := nI (4)) E dL_law_269 (by decide) ?_
      refine V.iaddN E  dL_law_270 ?_
      refine V.sld (v := sc (i + 4)) E S (by omega) (rfl) dL_law_271 ?_
      refine V.callV (C := RX4) E (c_X4_fill_bad G ad (sltA S0) (sltA S1) x (bN true) (sc (i + 2)) (sc (i + 3)) (sc (i + 4)) (hb)) (bl [mdW G a (fla x) hi sl sv mr mo mk mt mm me mw tx cl hl tl sp rd, scW G (ad 2) y, vwW G (ad 3) ur uo uk us ut uc um ue uq un_, vwW G (ad 4) zr zo zk zs zt zc zm ze zq zn_, pdW G (ad 5) tx tl, hiW G (ad 6) ha ro hl, scW G (ha 0) (rg 0), scW G (ha 1) (rg 1), scW G (ha 2) (rg 2), scW G (ha 3) (rg 3), scW G (ha 4) (rg 4), scW G (ha 5) (rg 5), sltW G S0, sltW G S1]) [] 0 4 rfl rfl rfl gL_law_X4_fill rfl ⟨rfl, hd_X4_fill⟩ ⟨⟨Nat.le_of_ble_eq_true rfl, Nat.le_of_ble_eq_true rfl⟩, rmL hkc rfl, rmS hks rfl⟩ rfl (Nat.le_of_ble_eq_true rfl) rfl dL_law_272 (pBs (n := 16) [gsW G ad (sltA S0) (sltA S1), mdW G a (fla x) hi sl sv mr mo mk mt mm me mw tx cl hl tl sp rd, scW G (ad 1) x, scW G (ad 2) y, vwW G (ad 3) ur uo uk us ut uc um ue uq un_, vwW G (ad 4) zr zo zk zs zt zc zm ze zq zn_, pdW G (ad 5) tx tl, hiW G (ad 6) ha ro hl, scW G (ha 0) (rg 0), scW G (ha 1) (rg 1), scW G (ha 2) (rg 2), scW G (ha 3) (rg 3), scW G (ha 4) (rg 4), scW G (ha 5) (rg 5), sltW G S0, sltW G S1] [0, 2] [1, 3, 4, 5, 6, 7, 8, 9, 10, 11, 12, 13, 14, 15] rfl (by decide)) (kc' := kc) (ks' := ks) rfl rfl (rwI (ws' := (bl [gsW G ad (sltA S0) (sltA S1), mdW G a (fla x) hi sl sv mr mo mk mt mm me mw tx cl hl tl sp rd, scW G (ad 1) x, scW G (ad 2) y, vwW G (ad 3) ur uo uk us ut uc um ue uq un_, vwW G (ad 4) zr zo zk zs zt zc zm ze zq zn_, pdW G (ad 5) tx tl, hiW G (ad 6) ha ro hl, scW G (ha 0) (rg 0), scW G (ha 1) (rg 1), scW G (ha 2) (rg 2), scW G (ha 3) (rg 3), scW G (ha 4) (rg 4), scW G (ha 5) (rg 5), sltW G S0, sltW G S1])) (pBs (n := 16) [gsW G ad (sltA S0) (sltA S1), mdW G a (fla x) hi sl sv mr mo mk mt mm me mw tx cl hl tl sp rd, scW G (ad 1) x, scW G (ad 2) y, vwW G (ad 3) ur uo uk us ut uc um ue uq un_, vwW G (ad 4) zr zo zk zs zt zc zm ze zq zn_, pdW G (ad 5) tx tl, hiW G (ad 6) ha ro hl, scW G (ha 0) (rg 0), scW G (ha 1) (rg 1), scW G (ha 2) (rg 2), scW G (ha 3) (rg 3), scW G (ha 4) (rg 4), scW G (ha 5) (rg 5), sltW G S0, sltW G S1] [0, 2] [1, 3, 4, 5, 6, 7, 8, 9, 10, 11, 12, 13, 14, 15] rfl (by decide)).symm ?_)
      refine V.aload_n E dL_law_275 rfl rfl ?_
      refine V.aload_n E dL_law_276 rfl rfl ?_
      refine V.iload_n E dL_law_277 rfl rfl ?_
      refine V.iconst (v := nI (1)) E dL_law_278 (by decide) ?_
      refine V.iaddN E  dL_law_279 ?_
      refine V.sld (v := sc (i + 1)) E S (by omega) (rfl) dL_law_280 ?_
      refine V.if_eq (tgt := 288) E dL_law_281 (by decide) (fun h => absurd h hz) (fun _ => ?_)
      refine V.iconst (v := nI (bN true)) E dL_law_284 (by decide) ?_
      refine V.goto (tgt := 289) E dL_law_285 (by decide) ?_
      refine V.aload_n E dL_law_289 rfl rfl ?_
      refine V.iload_n E dL_law_290 rfl rfl ?_
      refine V.iconst (v := nI (2)) E dL_law_291 (by decide) ?_
      refine V.iaddN E  dL_law_292 ?_
      refine V.sld (v := sc (i + 2)) E S (by omega) (rfl) dL_law_293 ?_
      refine V.aload_n E dL_law_294 rfl rfl ?_
      refine V.iload_n E dL_law_295 rfl rfl ?_
      refine V.iconst (v := nI (3)) E dL_law_296 (by decide) ?_
      refine V.iaddN E  dL_law_297 ?_
      refine V.sld (v := sc (i + 3)) E S (by omega) (rfl) dL_law_298 ?_
      refine V.aload_n E dL_law_299 rfl rfl ?_
      refine V.iload_n E dL_law_300 rfl rfl ?_
      refine V.iconst (v := nI (4)) E dL_law_301 (by decide) ?_
      refine V.iaddN E  dL_law_302 ?_
      refine V.sld (v := sc (i + 4)) E S (by omega) (rfl) dL_law_303 ?_
      refine V.callV (C := RX5) E (c_X5_fill_bad G a hi sl sv mr mo mk mt mm me mw tx cl hl tl sp rd x (bN true) (sc (i + 2)) (sc (i + 3)) (sc (i + 4)) (hb)) (bl [gsW G ad (sltA S0) (sltA S1), scW G (ad 1) x, scW G (ad 2) y, vwW G (ad 3) ur uo uk us ut uc um ue uq un_, vwW G (ad 4) zr zo zk zs zt zc zm ze zq zn_, pdW G (ad 5) tx tl, hiW G (ad 6) ha ro hl, scW G (ha 0) (rg 0), scW G (ha 1) (rg 1), scW G (ha 2) (rg 2), scW G (ha 3) (rg 3), scW G (ha 4) (rg 4), scW G (ha 5) (rg 5), sltW G S0, sltW G S1]) [.int ((-1 : Int32))] 2 5 rfl rfl rfl gL_law_X5_fill rfl ⟨rfl, hd_X5_fill⟩ ⟨⟨Nat.le_of_ble_eq_true rfl, Nat.le_of_ble_eq_true rfl⟩, rmL hkc rfl, rmS hks rfl⟩ rfl (Nat.le_of_ble_eq_true rfl) rfl dL_law_304 (pBs (n := 16) [gsW G ad (sltA S0) (sltA S1), mdW G a (fla x) hi sl sv mr mo mk mt mm me mw tx cl hl tl sp rd, scW G (ad 1) x, scW G (ad 2) y, vwW G (ad 3) ur uo uk us ut uc um ue uq un_, vwW G (ad 4) zr zo zk zs zt zc zm ze zq zn_, pdW G (ad 5) tx tl, hiW G (ad 6) ha ro hl, scW G (ha 0) (rg 0), scW G (ha 1) (rg 1), scW G (ha 2) (rg 2), scW G (ha 3) (rg 3), scW G (ha 4) (rg 4), scW G (ha 5) (rg 5), sltW G S0, sltW G S1] [1] [0, 2, 3, 4, 5, 6, 7, 8, 9, 10, 11, 12, 13, 14, 15] rfl (by decide)) (kc' := kc) (ks' := ks) rfl rfl (rwI (ws' := (bl [gsW G ad (sltA S0) (sltA S1), mdW G a (fla x) hi sl sv mr mo mk mt mm me mw tx cl hl tl sp rd, scW G (ad 1) x, scW G (ad 2) y, vwW G (ad 3) ur uo uk us ut uc um ue uq un_, vwW G (ad 4) zr zo zk zs zt zc zm ze zq zn_, pdW G (ad 5) tx tl, hiW G (ad 6) ha ro hl, scW G (ha 0) (rg 0), scW G (ha 1) (rg 1), scW G (ha 2) (rg 2), scW G (ha 3) (rg 3), scW G (ha 4) (rg 4), scW G (ha 5) (rg 5), sltW G S0, sltW G S1])) (pBs (n := 16) [gsW G ad (sltA S0) (sltA S1), mdW G a (fla x) hi sl sv mr mo mk mt mm me mw tx cl hl tl sp rd, scW G (ad 1) x, scW G (ad 2) y, vwW G (ad 3) ur uo uk us ut uc um ue uq un_, vwW G (ad 4) zr zo zk zs zt zc zm ze zq zn_, pdW G (ad 5) tx tl, hiW G (ad 6) ha ro hl, scW G (ha 0) (rg 0), scW G (ha 1) (rg 1), scW G (ha 2) (rg 2), scW G (ha 3) (rg 3), scW G (ha 4) (rg 4), scW G (ha 5) (rg 5), sltW G S0, sltW G S1] [1] [0, 2, 3, 4, 5, 6, 7, 8, 9, 10, 11, 12, 13, 14, 15] rfl (by decide)).symm ?_)
      refine V.icmp_eq (tgt := 762) E dL_law_307 (by decide) (fun _ => ?_) (fun h => absurd rfl h)
      refine V.widen (k := kc + 5) (n := ks + 155) (Nat.le_add_right _ _) (Nat.le_add_right _ _) ?_
      exact K hi sl sv mr mo mk mt mm me mw tx cl hl tl sp rd x y ur uo uk us ut uc um ue uq un_ zr zo zk zs zt zc zm ze zq zn_ ro rg hh S0 S1 (q)
    · obtain ⟨p_, r_, hp, hr_, e2, e3⟩ := okI2_s hb (by decide) (by decide)
      by_cases hb : okI 4096 (sc (i + 4)) = false
      · refine V.aload_n E dL_law_243 rfl rfl ?_
        refine V.aload_n E dL_law_244 rfl rfl ?_
        refine V.iload_n E dL_law_245 rfl rfl ?_
        refine V.iconst (v := nI (1)) E dL_law_246 (by decide) ?_
        refine V.iaddN E  dL_law_247 ?_
        refine V.sld (v := sc (i + 1)) E S (by omega) (rfl) dL_law_248 ?_
        refine V.if_eq (tgt := 256) E dL_law_249 (by decide) (fun h => absurd h hz) (fun _ => ?_)
        refine V.iconst (v := nI (bN true)) E dL_law_252 (by decide) ?_
        refine V.goto (tgt := 257) E dL_law_253 (by decide) ?_
        refine V.aload_n E dL_law_257 rfl rfl ?_
        refine V.iload_n E dL_law_258 rfl rfl ?_
        refine V.iconst (v := nI (2)) E dL_law_259 (by decide) ?_
        refine V.iaddN E  dL_law_260 ?_
        refine V.sld (v := nI (p_)) E S (by omega) (e2) dL_law_261 ?_
        refine V.aload_n E dL_law_262 rfl rfl ?_
        refine V.iload_n E dL_law_263 rfl rfl ?_
        refine V.iconst (v := nI (3)) E dL_law_264 (by decide) ?_
        refine V.iaddN E  dL_law_265 ?_
        refine V.sld (v := nI (r_)) E S (by omega) (e3) dL_law_266 ?_
        refine V.aload_n E dL_law_267 rfl rfl ?_
        refine V.iload_n E dL_law_268 rfl rfl ?_
        refine V.iconst (v := nI (4)) E dL_law_269 (by decide) ?_
        refine V.iaddN E  dL_law_270 ?_
        refine V.sld (v := sc (i + 4)) E S (by omega) (rfl) dL_law_271 ?_
        refine V.callV (C := RX4) E (c_X4_fill_bc G ad (sltA S0) (sltA S1) x (bN true) p_ r_ (sc (i + 4)) (hp) (hr_) (hb)) (bl [mdW G a (fla x) hi sl sv mr mo mk mt mm me mw tx cl hl tl sp rd, scW G (ad 2) y, vwW G (ad 3) ur uo uk us ut uc um ue uq un_, vwW G (ad 4) zr zo zk zs zt zc zm ze zq zn_, pdW G (ad 5) tx tl, hiW G (ad 6) ha ro hl, scW G (ha 0) (rg 0), scW G (ha 1) (rg 1), scW G (ha 2) (rg 2), scW G (ha 3) (rg 3), scW G (ha 4) (rg 4), scW G (ha 5) (rg 5), sltW G S0, sltW G S1]) [] 0 4 rfl rfl rfl gL_law_X4_fill rfl ⟨rfl, hd_X4_fill⟩ ⟨⟨Nat.le_of_ble_eq_true rfl, Nat.le_of_ble_eq_true rfl⟩, rmL hkc rfl, rmS hks rfl⟩ rfl (Nat.le_of_ble_eq_true rfl) rfl dL_law_272 (pBs (n := 16) [gsW G ad (sltA S0) (sltA S1), mdW G a (fla x) hi sl sv mr mo mk mt mm me mw tx cl hl tl sp rd, scW G (ad 1) x, scW G (ad 2) y, vwW G (ad 3) ur uo uk us ut uc um ue uq un_, vwW G (ad 4) zr zo zk zs zt zc zm ze zq zn_, pdW G (ad 5) tx tl, hiW G (ad 6) ha ro hl, scW G (ha 0) (rg 0), scW G (ha 1) (rg 1), scW G (ha 2) (rg 2), scW G (ha 3) (rg 3), scW G (ha 4) (rg 4), scW G (ha 5) (rg 5), sltW G S0, sltW G S1] [0, 2] [1, 3, 4, 5, 6, 7, 8, 9, 10, 11, 12, 13, 14, 15] rfl (by decide)) (kc' := kc) (ks' := ks) rfl rfl (rwI (ws' := (bl [gsW G ad (sltA S0) (sltA S1), mdW G a (fla x) hi sl sv mr mo mk mt mm me mw tx cl hl tl sp rd, scW G (ad 1) x, scW G (ad 2) y, vwW G (ad 3) ur uo uk us ut uc um ue uq un_, vwW G (ad 4) zr zo zk zs zt zc zm ze zq zn_, pdW G (ad 5) tx tl, hiW G (ad 6) ha ro hl, scW G (ha 0) (rg 0), scW G (ha 1) (rg 1), scW G (ha 2) (rg 2), scW G (ha 3) (rg 3), scW G (ha 4) (rg 4), scW G (ha 5) (rg 5), sltW G S0, sltW G S1])) (pBs (n := 16) [gsW G ad (sltA S0) (sltA S1), mdW G a (fla x) hi sl sv mr mo mk mt mm me mw tx cl hl tl sp rd, scW G (ad 1) x, scW G (ad 2) y, vwW G (ad 3) ur uo uk us ut uc um ue uq un_, vwW G (ad 4) zr zo zk zs zt zc zm ze zq zn_, pdW G (ad 5) tx tl, hiW G (ad 6) ha ro hl, scW G (ha 0) (rg 0), scW G (ha 1) (rg 1), scW G (ha 2) (rg 2), scW G (ha 3) (rg 3), scW G (ha 4) (rg 4), scW G (ha 5) (rg 5), sltW G S0, sltW G S1] [0, 2] [1, 3, 4, 5, 6, 7, 8, 9, 10, 11, 12, 13, 14, 15] rfl (by decide)).symm ?_)
        refine V.aload_n E dL_law_275 rfl rfl ?_
        refine V.aload_n E dL_law_276 rfl rfl ?_
        refine V.iload_n E dL_law_277 rfl rfl ?_
        refine V.iconst (v := nI (1)) E dL_law_278 (by decide) ?_
        refine V.iaddN E  dL_law_279 ?_
        refine V.sld (v := sc (i + 1)) E S (by omega) (rfl) dL_law_280 ?_
        refine V.if_eq (tgt := 288) E dL_law_281 (by decide) (fun h => absurd h hz) (fun _ => ?_)
        refine V.iconst (v := nI (bN true)) E dL_law_284 (by decide) ?_
        refine V.goto (tgt := 289) E dL_law_285 (by decide) ?_
        refine V.aload_n E dL_law_289 rfl rfl ?_
        refine V.iload_n E dL_law_290 rfl rfl ?_
        refine V.iconst (v := nI (2)) E dL_law_291 (by decide) ?_
        refine V.iaddN E  dL_law_292 ?_
        refine V.sld (v := nI (p_)) E S (by omega) (e2) dL_law_293 ?_
        refine V.aload_n E dL_law_294 rfl rfl ?_
        refine V.iload_n E dL_law_295 rfl rfl ?_
        refine V.iconst (v := nI (3)) E dL_law_296 (by decide) ?_
        refine V.iaddN E  dL_law_297 ?_
        refine V.sld (v := nI (r_)) E S (by omega) (e3) dL_law_298 ?_
        refine V.aload_n E dL_law_299 rfl rfl ?_
        refine V.iload_n E dL_law_300 rfl rfl ?_
        refine V.iconst (v := nI (4)) E dL_law_301 (by decide) ?_
        refine V.iaddN E  dL_law_302 ?_
        refine V.sld (v := sc (i + 4)) E S (by omega) (rfl) dL_law_303 ?_
        refine V.callV (C := RX5) E (c_X5_fill_bc G a hi sl sv mr mo mk mt mm me mw tx cl hl tl sp rd x (bN true) p_ r_ (sc (i + 4)) (hp) (hr_) (hb)) (bl [gsW G ad (sltA S0) (sltA S1), scW G (ad 1) x, scW G (ad 2) y, vwW G (ad 3) ur uo uk us ut uc um ue uq un_, vwW G (ad 4) zr zo zk zs zt zc zm ze zq zn_, pdW G (ad 5) tx tl, hiW G (ad 6) ha ro hl, scW G (ha 0) (rg 0), scW G (ha 1) (rg 1), scW G (ha 2) (rg 2), scW G (ha 3) (rg 3), scW G (ha 4) (rg 4), scW G (ha 5) (rg 5), sltW G S0, sltW G S1]) [.int ((-2 : Int32))] 2 5 rfl rfl rfl gL_law_X5_fill rfl ⟨rfl, hd_X5_fill⟩ ⟨⟨Nat.le_of_ble_eq_true rfl, Nat.le_of_ble_eq_true rfl⟩, rmL hkc rfl, rmS hks rfl⟩ rfl (Nat.le_of_ble_eq_true rfl) rfl dL_law_304 (pBs (n := 16) [gsW G ad (sltA S0) (sltA S1), mdW G a (fla x) hi sl sv mr mo mk mt mm me mw tx cl hl tl sp rd, scW G (ad 1) x, scW G (ad 2) y, vwW G (ad 3) ur uo uk us ut uc um ue uq un_, vwW G (ad 4) zr zo zk zs zt zc zm ze zq zn_, pdW G (ad 5) tx tl, hiW G (ad 6) ha ro hl, scW G (ha 0) (rg 0), scW G (ha 1) (rg 1), scW G (ha 2) (rg 2), scW G (ha 3) (rg 3), scW G (ha 4) (rg 4), scW G (ha 5) (rg 5), sltW G S0, sltW G S1] [1] [0, 2, 3, 4, 5, 6, 7, 8, 9, 10, 11, 12, 13, 14, 15] rfl (by decide)) (kc' := kc) (ks' := ks) rfl rfl (rwI (ws' := (bl [gsW G ad (sltA S0) (sltA S1), mdW G a (fla x) hi sl sv mr mo mk mt mm me mw tx cl hl tl sp rd, scW G (ad 1) x, scW G (ad 2) y, vwW G (ad 3) ur uo uk us ut uc um ue uq un_, vwW G (ad 4) zr zo zk zs zt zc zm ze zq zn_, pdW G (ad 5) tx tl, hiW G (ad 6) ha ro hl, scW G (ha 0) (rg 0), scW G (ha 1) (rg 1), scW G (ha 2) (rg 2), scW G (ha 3) (rg 3), scW G (ha 4) (rg 4), scW G (ha 5) (rg 5), sltW G S0, sltW G S1])) (pBs (n := 16) [gsW G ad (sltA S0) (sltA S1), mdW G a (fla x) hi sl sv mr mo mk mt mm me mw tx cl hl tl sp rd, scW G (ad 1) x, scW G (ad 2) y, vwW G (ad 3) ur uo uk us ut uc um ue uq un_, vwW G (ad 4) zr zo zk zs zt zc zm ze zq zn_, pdW G (ad 5) tx tl, hiW G (ad 6) ha ro hl, scW G (ha 0) (rg 0), scW G (ha 1) (rg 1), scW G (ha 2) (rg 2), scW G (ha 3) (rg 3), scW G (ha 4) (rg 4), scW G (ha 5) (rg 5), sltW G S0, sltW G S1] [1] [0, 2, 3, 4, 5, 6, 7, 8, 9, 10, 11, 12, 13, 14, 15] rfl (by decide)).symm ?_)
        refine V.icmp_eq (tgt := 762) E dL_law_307 (by decide) (fun _ => ?_) (fun h => absurd rfl h)
        refine V.widen (k := kc + 5) (n := ks + 155) (Nat.le_add_right _ _) (Nat.le_add_right _ _) ?_
        exact K hi sl sv mr mo mk mt mm me mw tx cl hl tl sp rd x y ur uo uk us ut uc um ue uq un_ zr zo zk zs zt zc zm ze zq zn_ ro rg hh S0 S1 (q)
      · obtain ⟨c_, hc, e4⟩ := okI_s hb (by decide)
        refine V.aload_n E dL_law_243 rfl rfl ?_
        refine V.aload_n E dL_law_244 rfl rfl ?_
        refine V.iload_n E dL_law_245 rfl rfl ?_
        refine V.iconst (v := nI (1)) E dL_law_246 (by decide) ?_
        refine V.iaddN E  dL_law_247 ?_
        refine V.sld (v := sc (i + 1)) E S (by omega) (rfl) dL_law_248 ?_
        refine V.if_eq (tgt := 256) E dL_law_249 (by decide) (fun h => absurd h hz) (fun _ => ?_)
        refine V.iconst (v := nI (bN true)) E dL_law_252 (by decide) ?_
        refine V.goto (tgt := 257) E dL_law_253 (by decide) ?_
        refine V.aload_n E dL_law_257 rfl rfl ?_
        refine V.iload_n E dL_law_258 rfl rfl ?_
        refine V.iconst (v := nI (2)) E dL_law_259 (by decide) ?_
        refine V.iaddN E  dL_law_260 ?_
        refine V.sld (v := nI (p_)) E S (by omega) (e2) dL_law_261 ?_
        refine V.aload_n E dL_law_262 rfl rfl ?_
        refine V.iload_n E dL_law_263 rfl rfl ?_
        refine V.iconst (v := nI (3)) E dL_law_264 (by decide) ?_
        refine V.iaddN E  dL_law_265 ?_
        refine V.sld (v := nI (r_)) E S (by omega) (e3) dL_law_266 ?_
        refine V.aload_n E dL_law_267 rfl rfl ?_
        refine V.iload_n E dL_law_268 rfl rfl ?_
        refine V.iconst (v := nI (4)) E dL_law_269 (by decide) ?_
        refine V.iaddN E  dL_law_270 ?_
        refine V.sld (v := nI (c_)) E S (by omega) (e4) dL_law_271 ?_
        refine V.callV (C := RX4) E (c_X4_fill_t G ad (sltA S0) (sltA S1) x ha rg ro hl p_ r_ c_ (q_o) (q_l) (q_x) (hp) (hr_) (hc)) (bl [mdW G a (fla x) hi sl sv mr mo mk mt mm me mw tx cl hl tl sp rd, scW G (ad 2) y, vwW G (ad 3) ur uo uk us ut uc um ue uq un_, vwW G (ad 4) zr zo zk zs zt zc zm ze zq zn_, pdW G (ad 5) tx tl, sltW G S0, sltW G S1]) [] 0 4 rfl rfl rfl gL_law_X4_fill rfl ⟨rfl, hd_X4_fill⟩ ⟨⟨Nat.le_of_ble_eq_true rfl, Nat.le_of_ble_eq_true rfl⟩, rmL hkc rfl, rmS hks rfl⟩ rfl (Nat.le_of_ble_eq_true rfl) rfl dL_law_272 (pBs (n := 16) [gsW G ad (sltA S0) (sltA S1), mdW G a (fla x) hi sl sv mr mo mk mt mm me mw tx cl hl tl sp rd, scW G (ad 1) x, scW G (ad 2) y, vwW G (ad 3) ur uo uk us ut uc um ue uq un_, vwW G (ad 4) zr zo zk zs zt zc zm ze zq zn_, pdW G (ad 5) tx tl, hiW G (ad 6) ha ro hl, scW G (ha 0) (rg 0), scW G (ha 1) (rg 1), scW G (ha 2) (rg 2), scW G (ha 3) (rg 3), scW G (ha 4) (rg 4), scW G (ha 5) (rg 5), sltW G S0, sltW G S1] [0, 2, 7, 8, 9, 10, 11, 12, 13] [1, 3, 4, 5, 6, 14, 15] rfl (by decide)) (kc' := kc) (ks' := ks) rfl rfl (rwI (ws' := (bl [gsW G ad (sltA S0) (sltA S1), mdW G a (fla x) hi sl sv mr mo mk mt mm me mw tx cl hl tl sp rd, scW G (ad 1) (scS x, filR p_ r_ c_ (scF x), x.2.2), scW G (ad 2) y, vwW G (ad 3) ur uo uk us ut uc um ue uq un_, vwW G (ad 4) zr zo zk zs zt zc zm ze zq zn_, pdW G (ad 5) tx tl, hiW G (ad 6) ha (onN ro hl) (hlN hl), scW G (ha 0) (rgu rg ((ro + hl) % 6) x 0), scW G (ha 1) (rgu rg ((ro + hl) % 6) x 1), scW G (ha 2) (rgu rg ((ro + hl) % 6) x 2), scW G (ha 3) (rgu rg ((ro + hl) % 6) x 3), scW G (ha 4) (rgu rg ((ro + hl) % 6) x 4), scW G (ha 5) (rgu rg ((ro + hl) % 6) x 5), sltW G S0, sltW G S1])) (pBs (n := 16) [gsW G ad (sltA S0) (sltA S1), mdW G a (fla x) hi sl sv mr mo mk mt mm me mw tx cl hl tl sp rd, scW G (ad 1) (scS x, filR p_ r_ c_ (scF x), x.2.2), scW G (ad 2) y, vwW G (ad 3) ur uo uk us ut uc um ue uq un_, vwW G (ad 4) zr zo zk zs zt zc zm ze zq zn_, pdW G (ad 5) tx tl, hiW G (ad 6) ha (onN ro hl) (hlN hl), scW G (ha 0) (rgu rg ((ro + hl) % 6) x 0), scW G (ha 1) (rgu rg ((ro + hl) % 6) x 1), scW G (ha 2) (rgu rg ((ro + hl) % 6) x 2), scW G (ha 3) (rgu rg ((ro + hl) % 6) x 3), scW G (ha 4) (rgu rg ((ro + hl) % 6) x 4), scW G (ha 5) (rgu rg ((ro + hl) % 6) x 5), sltW G S0, sltW G S1] [0, 2, 7, 8, 9, 10, 11, 12, 13] [1, 3, 4, 5, 6, 14, 15] rfl (by decide)).symm ?_)
        refine V.aload_n E dL_law_275 rfl rfl ?_
        refine V.aload_n E dL_law_276 rfl rfl ?_
        refine V.iload_n E dL_law_277 rfl rfl ?_
        refine V.iconst (v := nI (1)) E dL_law_278 (by decide) ?_
        refine V.iaddN E  dL_law_279 ?_
        refine V.sld (v := sc (i + 1)) E S (by omega) (rfl) dL_law_280 ?_
        refine V.if_eq (tgt := 288) E dL_law_281 (by decide) (fun h => absurd h hz) (fun _ => ?_)
        refine V.iconst (v := nI (bN true)) E dL_law_284 (by decide) ?_
        refine V.goto (tgt := 289) E dL_law_285 (by decide) ?_
        refine V.aload_n E dL_law_289 rfl rfl ?_
        refine V.iload_n E dL_law_290 rfl rfl ?_
        refine V.iconst (v := nI (2)) E dL_law_291 (by decide) ?_
        refine V.iaddN E  dL_law_292 ?_
        refine V.sld (v := nI (p_)) E S (by omega) (e2) dL_law_293 ?_
        refine V.aload_n E dL_law_294 rfl rfl ?_
        refine V.iload_n E dL_law_295 rfl rfl ?_
        refine V.iconst (v := nI (3)) E dL_law_296 (by decide) ?_
        refine V.iaddN E  dL_law_297 ?_
        refine V.sld (v := nI (r_)) E S (by omega) (e3) dL_law_298 ?_
        refine V.aload_n E dL_law_299 rfl rfl ?_
        refine V.iload_n E dL_law_300 rfl rfl ?_
        refine V.iconst (v := nI (4)) E dL_law_301 (by decide) ?_
        refine V.iaddN E  dL_law_302 ?_
        refine V.sld (v := nI (c_)) E S (by omega) (e4) dL_law_303 ?_
        refine V.callV (C := RX5) E (c_X5_fill_t G a hi sl sv mr mo mk mt mm me mw tx cl hl tl sp rd x hh p_ r_ c_ (q_l) (q_H) (hp) (hr_) (hc)) (bl [gsW G ad (sltA S0) (sltA S1), scW G (ad 1) (scS x, filR p_ r_ c_ (scF x), x.2.2), scW G (ad 2) y, vwW G (ad 3) ur uo uk us ut uc um ue uq un_, vwW G (ad 4) zr zo zk zs zt zc zm ze zq zn_, pdW G (ad 5) tx tl, hiW G (ad 6) ha (onN ro hl) (hlN hl), scW G (ha 0) (rgu rg ((ro + hl) % 6) x 0), scW G (ha 1) (rgu rg ((ro + hl) % 6) x 1), scW G (ha 2) (rgu rg ((ro + hl) % 6) x 2), scW G (ha 3) (rgu rg ((ro + hl) % 6) x 3), scW G (ha 4) (rgu rg ((ro + hl) % 6) x 4), scW G (ha 5) (rgu rg ((ro + hl) % 6) x 5), sltW G S0, sltW G S1]) [.int (nI (sumN 48 (fun j => bN (inR p_ r_ j))))] 2 5 rfl rfl rfl gL_law_X5_fill rfl ⟨rfl, hd_X5_fill⟩ ⟨⟨Nat.le_of_ble_eq_true rfl, Nat.le_of_ble_eq_true rfl⟩, rmL hkc rfl, rmS hks rfl⟩ rfl (Nat.le_of_ble_eq_true rfl) rfl dL_law_304 (pBs (n := 16) [gsW G ad (sltA S0) (sltA S1), mdW G a (fla x) hi sl sv mr mo mk mt mm me mw tx cl hl tl sp rd, scW G (ad 1) (scS x, filR p_ r_ c_ (scF x), x.2.2), scW G (ad 2) y, vwW G (ad 3) ur uo uk us ut uc um ue uq un_, vwW G (ad 4) zr zo zk zs zt zc zm ze zq zn_, pdW G (ad 5) tx tl, hiW G (ad 6) ha (onN ro hl) (hlN hl), scW G (ha 0) (rgu rg ((ro + hl) % 6) x 0), scW G (ha 1) (rgu rg ((ro + hl) % 6) x 1), scW G (ha 2) (rgu rg ((ro + hl) % 6) x 2), scW G (ha 3) (rgu rg ((ro + hl) % 6) x 3), scW G (ha 4) (rgu rg ((ro + hl) % 6) x 4), scW G (ha 5) (rgu rg ((ro + hl) % 6) x 5), sltW G S0, sltW G S1] [1] [0, 2, 3, 4, 5, 6, 7, 8, 9, 10, 11, 12, 13, 14, 15] rfl (by decide)) (kc' := kc) (ks' := ks) rfl rfl (rxI (ws' := fun (g_304 : Nat → Nat) => (bl [gsW G ad (sltA S0) (sltA S1), mdW G a (fla (scS x, filR p_ r_ c_ (scF x), x.2.2)) g_304 sl sv mr mo mk mt mm me mw tx cl (hlN hl) tl sp rd, scW G (ad 1) (scS x, filR p_ r_ c_ (scF x), x.2.2), scW G (ad 2) y, vwW G (ad 3) ur uo uk us ut uc um ue uq un_, vwW G (ad 4) zr zo zk zs zt zc zm ze zq zn_, pdW G (ad 5) tx tl, hiW G (ad 6) ha (onN ro hl) (hlN hl), scW G (ha 0) (rgu rg ((ro + hl) % 6) x 0), scW G (ha 1) (rgu rg ((ro + hl) % 6) x 1), scW G (ha 2) (rgu rg ((ro + hl) % 6) x 2), scW G (ha 3) (rgu rg ((ro + hl) % 6) x 3), scW G (ha 4) (rgu rg ((ro + hl) % 6) x 4), scW G (ha 5) (rgu rg ((ro + hl) % 6) x 5), sltW G S0, sltW G S1])) (fun g_304 => (pBs (n := 16) [gsW G ad (sltA S0) (sltA S1), mdW G a (fla (scS x, filR p_ r_ c_ (scF x), x.2.2)) g_304 sl sv mr mo mk mt mm me mw tx cl (hlN hl) tl sp rd, scW G (ad 1) (scS x, filR p_ r_ c_ (scF x), x.2.2), scW G (ad 2) y, vwW G (ad 3) ur uo uk us ut uc um ue uq un_, vwW G (ad 4) zr zo zk zs zt zc zm ze zq zn_, pdW G (ad 5) tx tl, hiW G (ad 6) ha (onN ro hl) (hlN hl), scW G (ha 0) (rgu rg ((ro + hl) % 6) x 0), scW G (ha 1) (rgu rg ((ro + hl) % 6) x 1), scW G (ha 2) (rgu rg ((ro + hl) % 6) x 2), scW G (ha 3) (rgu rg ((ro + hl) % 6) x 3), scW G (ha 4) (rgu rg ((ro + hl) % 6) x 4), scW G (ha 5) (rgu rg ((ro + hl) % 6) x 5), sltW G S0, sltW G S1] [1] [0, 2, 3, 4, 5, 6, 7, 8, 9, 10, 11, 12, 13, 14, 15] rfl (by decide)).symm) (fun g_304 hf_304 => ?_))
        refine V.icmp_eq (tgt := 762) E dL_law_307 (by decide) (fun _ => ?_) (fun h => absurd rfl h)
        refine V.widen (k := kc + 5) (n := ks + 155) (Nat.le_add_right _ _) (Nat.le_add_right _ _) ?_
        exact K g_304 sl sv mr mo mk mt mm me mw tx cl (hlN hl) tl sp rd (scS x, filR p_ r_ c_ (scF x), x.2.2) y ur uo uk us ut uc um ue uq un_ zr zo zk zs zt zc zm ze zq zn_ (onN ro hl) (rgu rg ((ro + hl) % 6) x) (hhN x hl hh) S0 S1 (LI.rem q (q_x.fr (filR_in q_x.f hc)) hf_304)
set_option maxRecDepth 100000 in
set_option maxHeartbeats 16000000 in
theorem lw_read {G : VC} {A : Nat → Prop} {X : VX} (E : Ev G A X cL_law RL wsL_law 4) {b L : Nat} {sc : Nat → Int32} (S : SX A X b L sc) {i : Nat} (hi_ : i + 4 < L) {kc ks : Nat} (hkc : kc + 5 ≤ 600000) (hks : ks + 155 ≤ 7302250) {a : Nat → Nat} {ad ha : AD} (hi : Nat → Nat) (sl : Nat → Nat) (sv : Nat → Nat) (mr : Nat → Nat) (mo : Nat → Nat) (mk : Nat → Nat) (mt : Nat → Nat) (mm : Nat → Nat) (me : Nat → Nat) (mw : Nat → Nat) (tx : Nat → Nat) (cl : Nat → Int32) (hl : Nat) (tl : Nat) (sp : Nat) (rd : Nat) (x : SC) (y : SC) (ur : Nat → Nat) (uo : Nat → Nat) (uk : Nat → Nat) (us : Nat → Nat) (ut : Nat → Nat) (uc : Nat → Nat) (um : Nat → Nat) (ue : Nat → Nat) (uq : Nat → Nat) (un_ : Nat) (zr : Nat → Nat) (zo : Nat → Nat) (zk : Nat → Nat) (zs : Nat → Nat) (zt : Nat → Nat) (zc : Nat → Nat) (zm : Nat → Nat) (ze : Nat → Nat) (zq : Nat → Nat) (zn_ : Nat) (ro : Nat) (rg : Nat → SC) (hh : Nat → SC) (S0 : SLT) (S1 : SLT) (q : LI x hl tl ro rg hh hi sl sv tx S0 S1) (K : LK G A X (kc + 5) (ks + 155) b i a ad ha) : V G A X room_1 (bl [gsW G ad (sltA S0) (sltA S1), mdW G a (fla x) hi sl sv mr mo mk mt mm me mw tx cl hl tl sp rd, scW G (ad 1) x, scW G (ad 2) y, vwW G (ad 3) ur uo uk us ut uc um ue uq un_, vwW G (ad 4) zr zo zk zs zt zc zm ze zq zn_, pdW G (ad 5) tx tl, hiW G (ad 6) ha ro hl, scW G (ha 0) (rg 0), scW G (ha 1) (rg 1), scW G (ha 2) (rg 2), scW G (ha 3) (rg 3), scW G (ha 4) (rg 4), scW G (ha 5) (rg 5), sltW G S0, sltW G S1]) kc ks 312 [some (.ref b), some (.ref (ad 0 0)), some (.ref (a 0)), some (.int (nI (i)))] [] := by
  obtain ⟨q_x, q_l, q_o, q_r, q_R, q_H, q_t, q_0, q_1⟩ := id q
  by_cases hz : sc (i + 1) = 0
  · by_cases hb : okI 6 (sc (i + 2)) = false
    · refine V.aload_n E dL_law_312 rfl rfl ?_
      refine V.aload_n E dL_law_313 rfl rfl ?_
      refine V.iload_n E dL_law_314 rfl rfl ?_
      refine V.iconst (v := nI (1)) E dL_law_315 (by decide) ?_
      refine V.iaddN E  dL_law_316 ?_
      refine V.sld (v := sc (i + 1)) E S (by omega) (rfl) dL_law_317 ?_
      refine V.if_eq (tgt := 325) E dL_law_318 (by decide) (fun _ => ?_) (fun h => absurd hz h)
      refine V.iconst (v := nI (bN false)) E dL_law_325 (by decide) ?_
      refine V.aload_n E dL_law_326 rfl rfl ?_
      refine V.iload_n E dL_law_327 rfl rfl ?_
      refine V.iconst (v := nI (2)) E dL_law_328 (by decide) ?_
      refine V.iaddN E  dL_law_329 ?_
      refine V.sld (v := sc (i + 2)) E S (by omega) (rfl) dL_law_330 ?_
      refine V.callV (C := RX4) E (c_X4_read_bad G ad (sltA S0) (sltA S1) tx tl x (bN false) (sc (i + 2)) (hb)) (bl [mdW G a (fla x) hi sl sv mr mo mk mt mm me mw tx cl hl tl sp rd, scW G (ad 1) x, scW G (ad 2) y, vwW G (ad 3) ur uo uk us ut uc um ue uq un_, vwW G (ad 4) zr zo zk zs zt zc zm ze zq zn_, hiW G (ad 6) ha ro hl, scW G (ha 0) (rg 0), scW G (ha 1) (rg 1), scW G (ha 2) (rg 2), scW G (ha 3) (rg 3), scW G (ha 4) (rg 4), scW G (ha 5) (rg 5), sltW G S0, sltW G S1]) [] 0 4 rfl rfl rfl gL_law_X4_read rfl ⟨rfl, hd_X4_read⟩ ⟨⟨Nat.le_of_ble_eq_true rfl, Nat.le_of_ble_eq_true rfl⟩, rmL hkc rfl, rmS hks rfl⟩ rfl (Nat.le_of_ble_eq_true rfl) rfl dL_law_331 (pBs (n := 16) [gsW G ad (sltA S0) (sltA S1), mdW G a (fla x) hi sl sv mr mo mk mt mm me mw tx cl hl tl sp rd, scW G (ad 1) x, scW G (ad 2) y, vwW G (ad 3) ur uo uk us ut uc um ue uq un_, vwW G (ad 4) zr zo zk zs zt zc zm ze zq zn_, pdW G (ad 5) tx tl, hiW G (ad 6) ha ro hl, scW G (ha 0) (rg 0), scW G (ha 1) (rg 1), scW G (ha 2) (rg 2), scW G (ha 3) (rg 3), scW G (ha 4) (rg 4), scW G (ha 5) (rg 5), sltW G S0, sltW G S1] [0, 6] [1, 2, 3, 4, 5, 7, 8, 9, 10, 11, 12, 13, 14, 15] rfl (by decide)) (kc' := kc) (ks' := ks) rfl rfl (rwI (ws' := (bl [gsW G ad (sltA S0) (sltA S1), mdW G a (fla x) hi sl sv mr mo mk mt mm me mw tx cl hl tl sp rd, scW G (ad 1) x, scW G (ad 2) y, vwW G (ad 3) ur uo uk us ut uc um ue uq un_, vwW G (ad 4) zr zo zk zs zt zc zm ze zq zn_, pdW G (ad 5) tx tl, hiW G (ad 6) ha ro hl, scW G (ha 0) (rg 0), scW G (ha 1) (rg 1), scW G (ha 2) (rg 2), scW G (ha 3) (rg 3), scW G (ha 4) (rg 4), scW G (ha 5) (rg 5), sltW G S0, sltW G S1])) (pBs (n := 16) [gsW G ad (sltA S0) (sltA S1), mdW G a (fla x) hi sl sv mr mo mk mt mm me mw tx cl hl tl sp rd, scW G (ad 1) x, scW G (ad 2) y, vwW G (ad 3) ur uo uk us ut uc um ue uq un_, vwW G (ad 4) zr zo zk zs zt zc zm ze zq zn_, pdW G (ad 5) tx tl, hiW G (ad 6) ha ro hl, scW G (ha 0) (rg 0), scW G (ha 1) (rg 1), scW G (ha 2) (rg 2), scW G (ha 3) (rg 3), scW G (ha 4) (rg 4), scW G (ha 5) (rg 5), sltW G S0, sltW G S1] [0, 6] [1, 2, 3, 4, 5, 7, 8, 9, 10, 11, 12, 13, 14, 15] rfl (by decide)).symm ?_)
      refine V.aload_n E dL_law_334 rfl rfl ?_
      refine V.aload_n E dL_law_335 rfl rfl ?_
      refine V.iload_n E dL_law_336 rfl rfl ?_
      refine V.iconst (v := nI (1)) E dL_law_337 (by decide) ?_
      refine V.iaddN E  dL_law_338 ?_
      refine V.sld (v := sc (i + 1)) E S (by omega) (rfl) dL_law_339 ?_
      refine V.if_eq (tgt := 347) E dL_law_340 (by decide) (fun _ => ?_) (fun h => absurd hz h)
      refine V.iconst (v := nI (bN false)) E dL_law_347 (by decide) ?_
      refine V.aload_n E dL_law_348 rfl rfl ?_
      refine V.iload_n E dL_law_349 rfl rfl ?_
      refine V.iconst (v := nI (2)) E dL_law_350 (by decide) ?_
      refine V.iaddN E  dL_law_351 ?_
      refine V.sld (v := sc (i + 2)) E S (by omega) (rfl) dL_law_352 ?_
      refine V.callV (C := RX5) E (c_X5_read_bad G a hi sl sv mr mo mk mt mm me mw tx cl hl tl sp rd x (bN false) (sc (i + 2)) (hb)) (bl [gsW G ad (sltA S0) (sltA S1), scW G (ad 1) x, scW G (ad 2) y, vwW G (ad 3) ur uo uk us ut uc um ue uq un_, vwW G (ad 4) zr zo zk zs zt zc zm ze zq zn_, pdW G (ad 5) tx tl, hiW G (ad 6) ha ro hl, scW G (ha 0) (rg 0), scW G (ha 1) (rg 1), scW G (ha 2) (rg 2), scW G (ha 3) (rg 3), scW G (ha 4) (rg 4), scW G (ha 5) (rg 5), sltW G S0, sltW G S1]) [.int ((-1 : Int32))] 2 5 rfl rfl rfl gL_law_X5_read rfl ⟨rfl, hd_X5_read⟩ ⟨⟨Nat.le_of_ble_eq_true rfl, Nat.le_of_ble_eq_true rfl⟩, rmL hkc rfl, rmS hks rfl⟩ rfl (Nat.le_of_ble_eq_true rfl) rfl dL_law_353 (pBs (n := 16) [gsW G ad (sltA S0) (sltA S1), mdW G a (fla x) hi sl sv mr mo mk mt mm me mw tx cl hl tl sp rd, scW G (ad 1) x, scW G (ad 2) y, vwW G (ad 3) ur uo uk us ut uc um ue uq un_, vwW G (ad 4) zr zo zk zs zt zc zm ze zq zn_, pdW G (ad 5) tx tl, hiW G (ad 6) ha ro hl, scW G (ha 0) (rg 0), scW G (ha 1) (rg 1), scW G (ha 2) (rg 2), scW G (ha 3) (rg 3), scW G (ha 4) (rg 4), scW G (ha 5) (rg 5), sltW G S0, sltW G S1] [1] [0, 2, 3, 4, 5, 6, 7, 8, 9, 10, 11, 12, 13, 14, 15] rfl (by decide)) (kc' := kc) (ks' := ks) rfl rfl (rwI (ws' := (bl [gsW G ad (sltA S0) (sltA S1), mdW G a (fla x) hi sl sv mr mo mk mt mm me mw tx cl hl tl sp rd, scW G (ad 1) x, scW G (ad 2) y, vwW G (ad 3) ur uo uk us ut uc um ue uq un_, vwW G (ad 4) zr zo zk zs zt zc zm ze zq zn_, pdW G (ad 5) tx tl, hiW G (ad 6) ha ro hl, scW G (ha 0) (rg 0), scW G (ha 1) (rg 1), scW G (ha 2) (rg 2), scW G (ha 3) (rg 3), scW G (ha 4) (rg 4), scW G (ha 5) (rg 5), sltW G S0, sltW G S1])) (pBs (n := 16) [gsW G ad (sltA S0) (sltA S1), mdW G a (fla x) hi sl sv mr mo mk mt mm me mw tx cl hl tl sp rd, scW G (ad 1) x, scW G (ad 2) y, vwW G (ad 3) ur uo uk us ut uc um ue uq un_, vwW G (ad 4) zr zo zk zs zt zc zm ze zq zn_, pdW G (ad 5) tx tl, hiW G (ad 6) ha ro hl, scW G (ha 0) (rg 0), scW G (ha 1) (rg 1), scW G (ha 2) (rg 2), scW G (ha 3) (rg 3), scW G (ha 4) (rg 4), scW G (ha 5) (rg 5), sltW G S0, sltW G S1] [1] [0, 2, 3, 4, 5, 6, 7, 8, 9, 10, 11, 12, 13, 14, 15] rfl (by decide)).symm ?_)
      refine V.icmp_eq (tgt := 762) E dL_law_356 (by decide) (fun _ => ?_) (fun h => absurd rfl h)
      refine V.widen (k := kc + 5) (n := ks + 155) (Nat.le_add_right _ _) (Nat.le_add_right _ _) ?_
      exact K hi sl sv mr mo mk mt mm me mw tx cl hl tl sp rd x y ur uo uk us ut uc um ue uq un_ zr zo zk zs zt zc zm ze zq zn_ ro rg hh S0 S1 (q)
    · obtain ⟨w_, hw, e2⟩ := okI_s hb (by decide)
      by_cases hf : fau tl tx = -6
      · obtain ⟨n_, hG⟩ := Gd.of q_t.1 hf
        refine V.aload_n E dL_law_312 rfl rfl ?_
        refine V.aload_n E dL_law_313 rfl rfl ?_
        refine V.iload_n E dL_law_314 rfl rfl ?_
        refine V.iconst (v := nI (1)) E dL_law_315 (by decide) ?_
        refine V.iaddN E  dL_law_316 ?_
        refine V.sld (v := sc (i + 1)) E S (by omega) (rfl) dL_law_317 ?_
        refine V.if_eq (tgt := 325) E dL_law_318 (by decide) (fun _ => ?_) (fun h => absurd hz h)
        refine V.iconst (v := nI (bN false)) E dL_law_325 (by decide) ?_
        refine V.aload_n E dL_law_326 rfl rfl ?_
        refine V.iload_n E dL_law_327 rfl rfl ?_
        refine V.iconst (v := nI (2)) E dL_law_328 (by decide) ?_
        refine V.iaddN E  dL_law_329 ?_
        refine V.sld (v := nI (w_)) E S (by omega) (e2) dL_law_330 ?_
        refine V.callV (C := RX4) E (c_X4_read_f G ad (sltA S0) (sltA S1) tx tl x ha rg ro hl w_ n_ (q_o) (q_l) (q_x) (q_t) (hw) (hf) (hG)) (bl [mdW G a (fla x) hi sl sv mr mo mk mt mm me mw tx cl hl tl sp rd, scW G (ad 2) y, vwW G (ad 3) ur uo uk us ut uc um ue uq un_, vwW G (ad 4) zr zo zk zs zt zc zm ze zq zn_, sltW G S0, sltW G S1]) [] 0 4 rfl rfl rfl gL_law_X4_read rfl ⟨rfl, hd_X4_read⟩ ⟨⟨Nat.le_of_ble_eq_true rfl, Nat.le_of_ble_eq_true rfl⟩, rmL hkc rfl, rmS hks rfl⟩ rfl (Nat.le_of_ble_eq_true rfl) rfl dL_law_331 (pBs (n := 16) [gsW G ad (sltA S0) (sltA S1), mdW G a (fla x) hi sl sv mr mo mk mt mm me mw tx cl hl tl sp rd, scW G (ad 1) x, scW G (ad 2) y, vwW G (ad 3) ur uo uk us ut uc um ue uq un_, vwW G (ad 4) zr zo zk zs zt zc zm ze zq zn_, pdW G (ad 5) tx tl, hiW G (ad 6) ha ro hl, scW G (ha 0) (rg 0), scW G (ha 1) (rg 1), scW G (ha 2) (rg 2), scW G (ha 3) (rg 3), scW G (ha 4) (rg 4), scW G (ha 5) (rg 5), sltW G S0, sltW G S1] [0, 2, 7, 8, 9, 10, 11, 12, 13, 6] [1, 3, 4, 5, 14, 15] rfl (by decide)) (kc' := kc) (ks' := ks) rfl rfl (rwI (ws' := (bl [gsW G ad (sltA S0) (sltA S1), mdW G a (fla x) hi sl sv mr mo mk mt mm me mw tx cl hl tl sp rd, scW G (ad 1) (scS x, scF x, rdF tl tx (8 * w_) (scB x) n_, x.2.2.2), scW G (ad 2) y, vwW G (ad 3) ur uo uk us ut uc um ue uq un_, vwW G (ad 4) zr zo zk zs zt zc zm ze zq zn_, pdW G (ad 5) tx 0, hiW G (ad 6) ha (onN ro hl) (hlN hl), scW G (ha 0) (rgu rg ((ro + hl) % 6) x 0), scW G (ha 1) (rgu rg ((ro + hl) % 6) x 1), scW G (ha 2) (rgu rg ((ro + hl) % 6) x 2), scW G (ha 3) (rgu rg ((ro + hl) % 6) x 3), scW G (ha 4) (rgu rg ((ro + hl) % 6) x 4), scW G (ha 5) (rgu rg ((ro + hl) % 6) x 5), sltW G S0, sltW G S1])) (pBs (n := 16) [gsW G ad (sltA S0) (sltA S1), mdW G a (fla x) hi sl sv mr mo mk mt mm me mw tx cl hl tl sp rd, scW G (ad 1) (scS x, scF x, rdF tl tx (8 * w_) (scB x) n_, x.2.2.2), scW G (ad 2) y, vwW G (ad 3) ur uo uk us ut uc um ue uq un_, vwW G (ad 4) zr zo zk zs zt zc zm ze zq zn_, pdW G (ad 5) tx 0, hiW G (ad 6) ha (onN ro hl) (hlN hl), scW G (ha 0) (rgu rg ((ro + hl) % 6) x 0), scW G (ha 1) (rgu rg ((ro + hl) % 6) x 1), scW G (ha 2) (rgu rg ((ro + hl) % 6) x 2), scW G (ha 3) (rgu rg ((ro + hl) % 6) x 3), scW G (ha 4) (rgu rg ((ro + hl) % 6) x 4), scW G (ha 5) (rgu rg ((ro + hl) % 6) x 5), sltW G S0, sltW G S1] [0, 2, 7, 8, 9, 10, 11, 12, 13, 6] [1, 3, 4, 5, 14, 15] rfl (by decide)).symm ?_)
        refine V.aload_n E dL_law_334 rfl rfl ?_
        refine V.aload_n E dL_law_335 rfl rfl ?_
        refine V.iload_n E dL_law_336 rfl rfl ?_
        refine V.iconst (v := nI (1)) E dL_law_337 (by decide) ?_
        refine V.iaddN E  dL_law_338 ?_
        refine V.sld (v := sc (i + 1)) E S (by omega) (rfl) dL_law_339 ?_
        refine V.if_eq (tgt := 347) E dL_law_340 (by decide) (fun _ => ?_) (fun h => absurd hz h)
        refine V.iconst (v := nI (bN false)) E dL_law_347 (by decide) ?_
        refine V.aload_n E dL_law_348 rfl rfl ?_
        refine V.iload_n E dL_law_349 rfl rfl ?_
        refine V.iconst (v := nI (2)) E dL_law_350 (by decide) ?_
        refine V.iaddN E  dL_law_351 ?_
        refine V.sld (v := nI (w_)) E S (by omega) (e2) dL_law_352 ?_
        refine V.callV (C := RX5) E (c_X5_read_f G a hi sl sv mr mo mk mt mm me mw tx cl hl tl sp rd x hh w_ n_ (q_t) (q_l) (q_H) (hw) (hf) (hG)) (bl [gsW G ad (sltA S0) (sltA S1), scW G (ad 1) (scS x, scF x, rdF tl tx (8 * w_) (scB x) n_, x.2.2.2), scW G (ad 2) y, vwW G (ad 3) ur uo uk us ut uc um ue uq un_, vwW G (ad 4) zr zo zk zs zt zc zm ze zq zn_, pdW G (ad 5) tx 0, hiW G (ad 6) ha (onN ro hl) (hlN hl), scW G (ha 0) (rgu rg ((ro + hl) % 6) x 0), scW G (ha 1) (rgu rg ((ro + hl) % 6) x 1), scW G (ha 2) (rgu rg ((ro + hl) % 6) x 2), scW G (ha 3) (rgu rg ((ro + hl) % 6) x 3), scW G (ha 4) (rgu rg ((ro + hl) % 6) x 4), scW G (ha 5) (rgu rg ((ro + hl) % 6) x 5), sltW G S0, sltW G S1]) [.int (nI (rdC tx n_))] 2 5 rfl rfl rfl gL_law_X5_read rfl ⟨rfl, hd_X5_read⟩ ⟨⟨Nat.le_of_ble_eq_true rfl, Nat.le_of_ble_eq_true rfl⟩, rmL hkc rfl, rmS hks rfl⟩ rfl (Nat.le_of_ble_eq_true rfl) rfl dL_law_353 (pBs (n := 16) [gsW G ad (sltA S0) (sltA S1), mdW G a (fla x) hi sl sv mr mo mk mt mm me mw tx cl hl tl sp rd, scW G (ad 1) (scS x, scF x, rdF tl tx (8 * w_) (scB x) n_, x.2.2.2), scW G (ad 2) y, vwW G (ad 3) ur uo uk us ut uc um ue uq un_, vwW G (ad 4) zr zo zk zs zt zc zm ze zq zn_, pdW G (ad 5) tx 0, hiW G (ad 6) ha (onN ro hl) (hlN hl), scW G (ha 0) (rgu rg ((ro + hl) % 6) x 0), scW G (ha 1) (rgu rg ((ro + hl) % 6) x 1), scW G (ha 2) (rgu rg ((ro + hl) % 6) x 2), scW G (ha 3) (rgu rg ((ro + hl) % 6) x 3), scW G (ha 4) (rgu rg ((ro + hl) % 6) x 4), scW G (ha 5) (rgu rg ((ro + hl) % 6) x 5), sltW G S0, sltW G S1] [1] [0, 2, 3, 4, 5, 6, 7, 8, 9, 10, 11, 12, 13, 14, 15] rfl (by decide)) (kc' := kc) (ks' := ks) rfl rfl (rxI (ws' := fun (g_353 : (Nat → Nat) × FG) => (bl [gsW G ad (sltA S0) (sltA S1), mdW G a (fla (scS x, scF x, rdF tl tx (8 * w_) (scB x) n_, x.2.2.2)) g_353.1 sl sv mr mo mk mt mm me mw tx g_353.2.2.2.2 (hlN hl) 0 g_353.2.2.1 g_353.2.2.2.1, scW G (ad 1) (scS x, scF x, rdF tl tx (8 * w_) (scB x) n_, x.2.2.2), scW G (ad 2) y, vwW G (ad 3) ur uo uk us ut uc um ue uq un_, vwW G (ad 4) zr zo zk zs zt zc zm ze zq zn_, pdW G (ad 5) tx 0, hiW G (ad 6) ha (onN ro hl) (hlN hl), scW G (ha 0) (rgu rg ((ro + hl) % 6) x 0), scW G (ha 1) (rgu rg ((ro + hl) % 6) x 1), scW G (ha 2) (rgu rg ((ro + hl) % 6) x 2), scW G (ha 3) (rgu rg ((ro + hl) % 6) x 3), scW G (ha 4) (rgu rg ((ro + hl) % 6) x 4), scW G (ha 5) (rgu rg ((ro + hl) % 6) x 5), sltW G S0, sltW G S1])) (fun g_353 => (pBs (n := 16) [gsW G ad (sltA S0) (sltA S1), mdW G a (fla (scS x, scF x, rdF tl tx (8 * w_) (scB x) n_, x.2.2.2)) g_353.1 sl sv mr mo mk mt mm me mw tx g_353.2.2.2.2 (hlN hl) 0 g_353.2.2.1 g_353.2.2.2.1, scW G (ad 1) (scS x, scF x, rdF tl tx (8 * w_) (scB x) n_, x.2.2.2), scW G (ad 2) y, vwW G (ad 3) ur uo uk us ut uc um ue uq un_, vwW G (ad 4) zr zo zk zs zt zc zm ze zq zn_, pdW G (ad 5) tx 0, hiW G (ad 6) ha (onN ro hl) (hlN hl), scW G (ha 0) (rgu rg ((ro + hl) % 6) x 0), scW G (ha 1) (rgu rg ((ro + hl) % 6) x 1), scW G (ha 2) (rgu rg ((ro + hl) % 6) x 2), scW G (ha 3) (rgu rg ((ro + hl) % 6) x 3), scW G (ha 4) (rgu rg ((ro + hl) % 6) x 4), scW G (ha 5) (rgu rg ((ro + hl) % 6) x 5), sltW G S0, sltW G S1] [1] [0, 2, 3, 4, 5, 6, 7, 8, 9, 10, 11, 12, 13, 14, 15] rfl (by decide)).symm) (fun g_353 hf_353 => ?_))
        refine V.icmp_eq (tgt := 762) E dL_law_356 (by decide) (fun _ => ?_) (fun h => absurd rfl h)
        refine V.widen (k := kc + 5) (n := ks + 155) (Nat.le_add_right _ _) (Nat.le_add_right _ _) ?_
        exact K g_353.1 sl sv mr mo mk mt mm me mw tx g_353.2.2.2.2 (hlN hl) 0 g_353.2.2.1 g_353.2.2.2.1 (scS x, scF x, rdF tl tx (8 * w_) (scB x) n_, x.2.2.2) y ur uo uk us ut uc um ue uq un_ zr zo zk zs zt zc zm ze zq zn_ (onN ro hl) (rgu rg ((ro + hl) % 6) x) (hhN x hl hh) S0 S1 (LI.txt (LI.rem q (q_x.bk (rdF_in hG q_x.b _ (Nat.le_refl _))) hf_353) q_t.wipe)
      · refine V.aload_n E dL_law_312 rfl rfl ?_
        refine V.aload_n E dL_law_313 rfl rfl ?_
        refine V.iload_n E dL_law_314 rfl rfl ?_
        refine V.iconst (v := nI (1)) E dL_law_315 (by decide) ?_
        refine V.iaddN E  dL_law_316 ?_
        refine V.sld (v := sc (i + 1)) E S (by omega) (rfl) dL_law_317 ?_
        refine V.if_eq (tgt := 325) E dL_law_318 (by decide) (fun _ => ?_) (fun h => absurd hz h)
        refine V.iconst (v := nI (bN false)) E dL_law_325 (by decide) ?_
        refine V.aload_n E dL_law_326 rfl rfl ?_
        refine V.iload_n E dL_law_327 rfl rfl ?_
        refine V.iconst (v := nI (2)) E dL_law_328 (by decide) ?_
        refine V.iaddN E  dL_law_329 ?_
        refine V.sld (v := nI (w_)) E S (by omega) (e2) dL_law_330 ?_
        refine V.callV (C := RX4) E (c_X4_read_no G ad (sltA S0) (sltA S1) tx tl x (bN false) w_ (q_t) (hw) (hf)) (bl [mdW G a (fla x) hi sl sv mr mo mk mt mm me mw tx cl hl tl sp rd, scW G (ad 1) x, scW G (ad 2) y, vwW G (ad 3) ur uo uk us ut uc um ue uq un_, vwW G (ad 4) zr zo zk zs zt zc zm ze zq zn_, hiW G (ad 6) ha ro hl, scW G (ha 0) (rg 0), scW G (ha 1) (rg 1), scW G (ha 2) (rg 2), scW G (ha 3) (rg 3), scW G (ha 4) (rg 4), scW G (ha 5) (rg 5), sltW G S0, sltW G S1]) [] 0 4 rfl rfl rfl gL_law_X4_read rfl ⟨rfl, hd_X4_read⟩ ⟨⟨Nat.le_of_ble_eq_true rfl, Nat.le_of_ble_eq_true rfl⟩, rmL hkc rfl, rmS hks rfl⟩ rfl (Nat.le_of_ble_eq_true rfl) rfl dL_law_331 (pBs (n := 16) [gsW G ad (sltA S0) (sltA S1), mdW G a (fla x) hi sl sv mr mo mk mt mm me mw tx cl hl tl sp rd, scW G (ad 1) x, scW G (ad 2) y, vwW G (ad 3) ur uo uk us ut uc um ue uq un_, vwW G (ad 4) zr zo zk zs zt zc zm ze zq zn_, pdW G (ad 5) tx tl, hiW G (ad 6) ha ro hl, scW G (ha 0) (rg 0), scW G (ha 1) (rg 1), scW G (ha 2) (rg 2), scW G (ha 3) (rg 3), scW G (ha 4) (rg 4), scW G (ha 5) (rg 5), sltW G S0, sltW G S1] [0, 6] [1, 2, 3, 4, 5, 7, 8, 9, 10, 11, 12, 13, 14, 15] rfl (by decide)) (kc' := kc) (ks' := ks) rfl rfl (rwI (ws' := (bl [gsW G ad (sltA S0) (sltA S1), mdW G a (fla x) hi sl sv mr mo mk mt mm me mw tx cl hl tl sp rd, scW G (ad 1) x, scW G (ad 2) y, vwW G (ad 3) ur uo uk us ut uc um ue uq un_, vwW G (ad 4) zr zo zk zs zt zc zm ze zq zn_, pdW G (ad 5) tx tl, hiW G (ad 6) ha ro hl, scW G (ha 0) (rg 0), scW G (ha 1) (rg 1), scW G (ha 2) (rg 2), scW G (ha 3) (rg 3), scW G (ha 4) (rg 4), scW G (ha 5) (rg 5), sltW G S0, sltW G S1])) (pBs (n := 16) [gsW G ad (sltA S0) (sltA S1), mdW G a (fla x) hi sl sv mr mo mk mt mm me mw tx cl hl tl sp rd, scW G (ad 1) x, scW G (ad 2) y, vwW G (ad 3) ur uo uk us ut uc um ue uq un_, vwW G (ad 4) zr zo zk zs zt zc zm ze zq zn_, pdW G (ad 5) tx tl, hiW G (ad 6) ha ro hl, scW G (ha 0) (rg 0), scW G (ha 1) (rg 1), scW G (ha 2) (rg 2), scW G (ha 3) (rg 3), scW G (ha 4) (rg 4), scW G (ha 5) (rg 5), sltW G S0, sltW G S1] [0, 6] [1, 2, 3, 4, 5, 7, 8, 9, 10, 11, 12, 13, 14, 15] rfl (by decide)).symm ?_)
        refine V.aload_n E dL_law_334 rfl rfl ?_
        refine V.aload_n E dL_law_335 rfl rfl ?_
        refine V.iload_n E dL_law_336 rfl rfl ?_
        refine V.iconst (v := nI (1)) E dL_law_337 (by decide) ?_
        refine V.iaddN E  dL_law_338 ?_
        refine V.sld (v := sc (i + 1)) E S (by omega) (rfl) dL_law_339 ?_
        refine V.if_eq (tgt := 347) E dL_law_340 (by decide) (fun _ => ?_) (fun h => absurd hz h)
        refine V.iconst (v := nI (bN false)) E dL_law_347 (by decide) ?_
        refine V.aload_n E dL_law_348 rfl rfl ?_
        refine V.iload_n E dL_law_349 rfl rfl ?_
        refine V.iconst (v := nI (2)) E dL_law_350 (by decide) ?_
        refine V.iaddN E  dL_law_351 ?_
        refine V.sld (v := nI (w_)) E S (by omega) (e2) dL_law_352 ?_
        refine V.callV (C := RX5) E (c_X5_read_no G a hi sl sv mr mo mk mt mm me mw tx cl hl tl sp rd x (bN false) w_ (q_t) (hw) (hf)) (bl [gsW G ad (sltA S0) (sltA S1), scW G (ad 1) x, scW G (ad 2) y, vwW G (ad 3) ur uo uk us ut uc um ue uq un_, vwW G (ad 4) zr zo zk zs zt zc zm ze zq zn_, pdW G (ad 5) tx tl, hiW G (ad 6) ha ro hl, scW G (ha 0) (rg 0), scW G (ha 1) (rg 1), scW G (ha 2) (rg 2), scW G (ha 3) (rg 3), scW G (ha 4) (rg 4), scW G (ha 5) (rg 5), sltW G S0, sltW G S1]) [.int ((-3 : Int32))] 2 5 rfl rfl rfl gL_law_X5_read rfl ⟨rfl, hd_X5_read⟩ ⟨⟨Nat.le_of_ble_eq_true rfl, Nat.le_of_ble_eq_true rfl⟩, rmL hkc rfl, rmS hks rfl⟩ rfl (Nat.le_of_ble_eq_true rfl) rfl dL_law_353 (pBs (n := 16) [gsW G ad (sltA S0) (sltA S1), mdW G a (fla x) hi sl sv mr mo mk mt mm me mw tx cl hl tl sp rd, scW G (ad 1) x, scW G (ad 2) y, vwW G (ad 3) ur uo uk us ut uc um ue uq un_, vwW G (ad 4) zr zo zk zs zt zc zm ze zq zn_, pdW G (ad 5) tx tl, hiW G (ad 6) ha ro hl, scW G (ha 0) (rg 0), scW G (ha 1) (rg 1), scW G (ha 2) (rg 2), scW G (ha 3) (rg 3), scW G (ha 4) (rg 4), scW G (ha 5) (rg 5), sltW G S0, sltW G S1] [1] [0, 2, 3, 4, 5, 6, 7, 8, 9, 10, 11, 12, 13, 14, 15] rfl (by decide)) (kc' := kc) (ks' := ks) rfl rfl (rxI (ws' := fun (g_353 : FG) => (bl [gsW G ad (sltA S0) (sltA S1), mdW G a (fla x) hi sl sv mr mo mk mt mm me mw tx g_353.2.2.2 hl tl g_353.2.1 g_353.2.2.1, scW G (ad 1) x, scW G (ad 2) y, vwW G (ad 3) ur uo uk us ut uc um ue uq un_, vwW G (ad 4) zr zo zk zs zt zc zm ze zq zn_, pdW G (ad 5) tx tl, hiW G (ad 6) ha ro hl, scW G (ha 0) (rg 0), scW G (ha 1) (rg 1), scW G (ha 2) (rg 2), scW G (ha 3) (rg 3), scW G (ha 4) (rg 4), scW G (ha 5) (rg 5), sltW G S0, sltW G S1])) (fun g_353 => (pBs (n := 16) [gsW G ad (sltA S0) (sltA S1), mdW G a (fla x) hi sl sv mr mo mk mt mm me mw tx g_353.2.2.2 hl tl g_353.2.1 g_353.2.2.1, scW G (ad 1) x, scW G (ad 2) y, vwW G (ad 3) ur uo uk us ut uc um ue uq un_, vwW G (ad 4) zr zo zk zs zt zc zm ze zq zn_, pdW G (ad 5) tx tl, hiW G (ad 6) ha ro hl, scW G (ha 0) (rg 0), scW G (ha 1) (rg 1), scW G (ha 2) (rg 2), scW G (ha 3) (rg 3), scW G (ha 4) (rg 4), scW G (ha 5) (rg 5), sltW G S0, sltW G S1] [1] [0, 2, 3, 4, 5, 6, 7, 8, 9, 10, 11, 12, 13, 14, 15] rfl (by decide)).symm) (fun g_353 hf_353 => ?_))
        refine V.icmp_eq (tgt := 762) E dL_law_356 (by decide) (fun _ => ?_) (fun h => absurd rfl h)
        refine V.widen (k := kc + 5) (n := ks + 155) (Nat.le_add_right _ _) (Nat.le_add_right _ _) ?_
        exact K hi sl sv mr mo mk mt mm me mw tx g_353.2.2.2 hl tl g_353.2.1 g_353.2.2.1 x y ur uo uk us ut uc um ue uq un_ zr zo zk zs zt zc zm ze zq zn_ ro rg hh S0 S1 (q)
  · by_cases hb : okI 6 (sc (i + 2)) = false
    · refine V.aload_n E dL_law_312 rfl rfl ?_
      refine V.aload_n E dL_law_313 rfl rfl ?_
      refine V.iload_n E dL_law_314 rfl rfl ?_
      refine V.iconst (v := nI (1)) E dL_law_315 (by decide) ?_
      refine V.iaddN E  dL_law_316 ?_
      refine V.sld (v := sc (i + 1)) E S (by omega) (rfl) dL_law_317 ?_
      refine V.if_eq (tgt := 325) E dL_law_318 (by decide) (fun h => absurd h hz) (fun _ => ?_)
      refine V.iconst (v := nI (bN true)) E dL_law_321 (by decide) ?_
      refine V.goto (tgt := 326) E dL_law_322 (by decide) ?_
      refine V.aload_n E dL_law_326 rfl rfl ?_
      refine V.iload_n E dL_law_327 rfl rfl ?_
      refine V.iconst (v := nI (2)) E dL_law_328 (by decide) ?_
      refine V.iaddN E  dL_law_329 ?_
      refine V.sld (v := sc (i + 2)) E S (by omega) (rfl) dL_law_330 ?_
      refine V.callV (C := RX4) E (c_X4_read_bad G ad (sltA S0) (sltA S1) tx tl x (bN true) (sc (i + 2)) (hb)) (bl [mdW G a (fla x) hi sl sv mr mo mk mt mm me mw tx cl hl tl sp rd, scW G (ad 1) x, scW G (ad 2) y, vwW G (ad 3) ur uo uk us ut uc um ue uq un_, vwW G (ad 4) zr zo zk zs zt zc zm ze zq zn_, hiW G (ad 6) ha ro hl, scW G (ha 0) (rg 0), scW G (ha 1) (rg 1), scW G (ha 2) (rg 2), scW G (ha 3) (rg 3), scW G (ha 4) (rg 4), scW G (ha 5) (rg 5), sltW G S0, sltW G S1]) [] 0 4 rfl rfl rfl gL_law_X4_read rfl ⟨rfl, hd_X4_read⟩ ⟨⟨Nat.le_of_ble_eq_true rfl, Nat.le_of_ble_eq_true rfl⟩, rmL hkc rfl, rmS hks rfl⟩ rfl (Nat.le_of_ble_eq_true rfl) rfl dL_law_331 (pBs (n := 16) [gsW G ad (sltA S0) (sltA S1), mdW G a (fla x) hi sl sv mr mo mk mt mm me mw tx cl hl tl sp rd, scW G (ad 1) x, scW G (ad 2) y, vwW G (ad 3) ur uo uk us ut uc um ue uq un_, vwW G (ad 4) zr zo zk zs zt zc zm ze zq zn_, pdW G (ad 5) tx tl, hiW G (ad 6) ha ro hl, scW G (ha 0) (rg 0), scW G (ha 1) (rg 1), scW G (ha 2) (rg 2), scW G (ha 3) (rg 3), scW G (ha 4) (rg 4), scW G (ha 5) (rg 5), sltW G S0, sltW G S1] [0, 6] [1, 2, 3, 4, 5, 7, 8, 9, 10, 11, 12, 13, 14, 15] rfl (by decide)) (kc' := kc) (ks' := ks) rfl rfl (rwI (ws' := (bl [gsW G ad (sltA S0) (sltA S1), mdW G a (fla x) hi sl sv mr mo mk mt mm me mw tx cl hl tl sp rd, scW G (ad 1) x, scW G (ad 2) y, vwW G (ad 3) ur uo uk us ut uc um ue uq un_, vwW G (ad 4) zr zo zk zs zt zc zm ze zq zn_, pdW G (ad 5) tx tl, hiW G (ad 6) ha ro hl, scW G (ha 0) (rg 0), scW G (ha 1) (rg 1), scW G (ha 2) (rg 2), scW G (ha 3) (rg 3), scW G (ha 4) (rg 4), scW G (ha 5) (rg 5), sltW G S0, sltW G S1])) (pBs (n := 16) [gsW G ad (sltA S0) (sltA S1), mdW G a (fla x) hi sl sv mr mo mk mt mm me mw tx cl hl tl sp rd, scW G (ad 1) x, scW G (ad 2) y, vwW G (ad 3) ur uo uk us ut uc um ue uq un_, vwW G (ad 4) zr zo zk zs zt zc zm ze zq zn_, pdW G (ad 5) tx tl, hiW G (ad 6) ha ro hl, scW G (ha 0) (rg 0), scW G (ha 1) (rg 1), scW G (ha 2) (rg 2), scW G (ha 3) (rg 3), scW G (ha 4) (rg 4), scW G (ha 5) (rg 5), sltW G S0, sltW G S1] [0, 6] [1, 2, 3, 4, 5, 7, 8, 9, 10, 11, 12, 13, 14, 15] rfl (by decide)).symm ?_)
      refine V.aload_n E dL_law_334 rfl rfl ?_
      refine V.aload_n E dL_law_335 rfl rfl ?_
      refine V.iload_n E dL_law_336 rfl rfl ?_
      refine V.iconst (v := nI (1)) E dL_law_337 (by decide) ?_
      refine V.iaddN E  dL_law_338 ?_
      refine V.sld (v := sc (i + 1)) E S (by omega) (rfl) dL_law_339 ?_
      refine V.if_eq (tgt := 347) E dL_law_340 (by decide) (fun h => absurd h hz) (fun _ => ?_)
      refine V.iconst (v := nI (bN true)) E dL_law_343 (by decide) ?_
      refine V.goto (tgt := 348) E dL_law_344 (by decide) ?_
      refine V.aload_n E dL_law_348 rfl rfl ?_
      refine V.iload_n E dL_law_349 rfl rfl ?_
      refine V.iconst (v := nI (2)) E dL_law_350 (by decide) ?_
      refine V.iaddN E  dL_law_351 ?_
      refine V.sld (v := sc (i + 2)) E S (by omega) (rfl) dL_law_352 ?_
      refine V.callV (C := RX5) E (c_X5_read_bad G a hi sl sv mr mo mk mt mm me mw tx cl hl tl sp rd x (bN true) (sc (i + 2)) (hb)) (bl [gsW G ad (sltA S0) (sltA S1), scW G (ad 1) x, scW G (ad 2) y, vwW G (ad 3) ur uo uk us ut uc um ue uq un_, vwW G (ad 4) zr zo zk zs zt zc zm ze zq zn_, pdW G (ad 5) tx tl, hiW G (ad 6) ha ro hl, scW G (ha 0) (rg 0), scW G (ha 1) (rg 1), scW G (ha 2) (rg 2), scW G (ha 3) (rg 3), scW G (ha 4) (rg 4), scW G (ha 5) (rg 5), sltW G S0, sltW G S1]) [.int ((-1 : Int32))] 2 5 rfl rfl rfl gL_law_X5_read rfl ⟨rfl, hd_X5_read⟩ ⟨⟨Nat.le_of_ble_eq_true rfl, Nat.le_of_ble_eq_true rfl⟩, rmL hkc rfl, rmS hks rfl⟩ rfl (Nat.le_of_ble_eq_true rfl) rfl dL_law_353 (pBs (n := 16) [gsW G ad (sltA S0) (sltA S1), mdW G a (fla x) hi sl sv mr mo mk mt mm me mw tx cl hl tl sp rd, scW G (ad 1) x, scW G (ad 2) y, vwW G (ad 3) ur uo uk us ut uc um ue uq un_, vwW G (ad 4) zr zo zk zs zt zc zm ze zq zn_, pdW G (ad 5) tx tl, hiW G (ad 6) ha ro hl, scW G (ha 0) (rg 0), scW G (ha 1) (rg 1), scW G (ha 2) (rg 2), scW G (ha 3) (rg 3), scW G (ha 4) (rg 4), scW G (ha 5) (rg 5), sltW G S0, sltW G S1] [1] [0, 2, 3, 4, 5, 6, 7, 8, 9, 10, 11, 12, 13, 14, 15] rfl (by decide)) (kc' := kc) (ks' := ks) rfl rfl (rwI (ws' := (bl [gsW G ad (sltA S0) (sltA S1), mdW G a (fla x) hi sl sv mr mo mk mt mm me mw tx cl hl tl sp rd, scW G (ad 1) x, scW G (ad 2) y, vwW G (ad 3) ur uo uk us ut uc um ue uq un_, vwW G (ad 4) zr zo zk zs zt zc zm ze zq zn_, pdW G (ad 5) tx tl, hiW G (ad 6) ha ro hl, scW G (ha 0) (rg 0), scW G (ha 1) (rg 1), scW G (ha 2) (rg 2), scW G (ha 3) (rg 3), scW G (ha 4) (rg 4), scW G (ha 5) (rg 5), sltW G S0, sltW G S1])) (pBs (n := 16) [gsW G ad (sltA S0) (sltA S1), mdW G a (fla x) hi sl sv mr mo mk mt mm me mw tx cl hl tl sp rd, scW G (ad 1) x, scW G (ad 2) y, vwW G (ad 3) ur uo uk us ut uc um ue uq un_, vwW G (ad 4) zr zo zk zs zt zc zm ze zq zn_, pdW G (ad 5) tx tl, hiW G (ad 6) ha ro hl, scW G (ha 0) (rg 0), scW G (ha 1) (rg 1), scW G (ha 2) (rg 2), scW G (ha 3) (rg 3), scW G (ha 4) (rg 4), scW G (ha 5) (rg 5), sltW G S0, sltW G S1] [1] [0, 2, 3, 4, 5, 6, 7, 8, 9, 10, 11, 12, 13, 14, 15] rfl (by decide)).symm ?_)
      refine V.icmp_eq (tgt := 762) E dL_law_356 (by decide) (fun _ => ?_) (fun h => absurd rfl h)
      refine V.widen (k := kc + 5) (n := ks + 155) (Nat.le_add_right _ _) (Nat.le_add_right _ _) ?_
      exact K hi sl sv mr mo mk mt mm me mw tx cl hl tl sp rd x y ur uo uk us ut uc um ue uq un_ zr zo zk zs zt zc zm ze zq zn_ ro rg hh S0 S1 (q)
    · obtain ⟨w_, hw, e2⟩ := okI_s hb (by decide)
      by_cases hf : fau tl tx = -6
      · obtain ⟨n_, hG⟩ := Gd.of q_t.1 hf
        refine V.aload_n E dL_law_312 rfl rfl ?_
        refine V.aload_n E dL_law_313 rfl rfl ?_
        refine V.iload_n E dL_law_314 rfl rfl ?_
        refine V.iconst (v := nI (1)) E dL_law_315 (by decide) ?_
        refine V.iaddN E  dL_law_316 ?_
        refine V.sld (v := sc (i + 1)) E S (by omega) (rfl) dL_law_317 ?_
        refine V.if_eq (tgt := 325) E dL_law_318 (by decide) (fun h => absurd h hz) (fun _ => ?_)
        refine V.iconst (v := nI (bN true)) E dL_law_321 (by decide) ?_
        refine V.goto (tgt := 326) E dL_law_322 (by decide) ?_
        refine V.aload_n E dL_law_326 rfl rfl ?_
        refine V.iload_n E dL_law_327 rfl rfl ?_
        refine V.iconst (v := nI (2)) E dL_law_328 (by decide) ?_
        refine V.iaddN E  dL_law_329 ?_
        refine V.sld (v := nI (w_)) E S (by omega) (e2) dL_law_330 ?_
        refine V.callV (C := RX4) E (c_X4_read_t G ad (sltA S0) (sltA S1) tx tl x ha rg ro hl w_ n_ (q_o) (q_l) (q_x) (q_t) (hw) (hf) (hG)) (bl [mdW G a (fla x) hi sl sv mr mo mk mt mm me mw tx cl hl tl sp rd, scW G (ad 2) y, vwW G (ad 3) ur uo uk us ut uc um ue uq un_, vwW G (ad 4) zr zo zk zs zt zc zm ze zq zn_, sltW G S0, sltW G S1]) [] 0 4 rfl rfl rfl gL_law_X4_read rfl ⟨rfl, hd_X4_read⟩ ⟨⟨Nat.le_of_ble_eq_true rfl, Nat.le_of_ble_eq_true rfl⟩, rmL hkc rfl, rmS hks rfl⟩ rfl (Nat.le_of_ble_eq_true rfl) rfl dL_law_331 (pBs (n := 16) [gsW G ad (sltA S0) (sltA S1), mdW G a (fla x) hi sl sv mr mo mk mt mm me mw tx cl hl tl sp rd, scW G (ad 1) x, scW G (ad 2) y, vwW G (ad 3) ur uo uk us ut uc um ue uq un_, vwW G (ad 4) zr zo zk zs zt zc zm ze zq zn_, pdW G (ad 5) tx tl, hiW G (ad 6) ha ro hl, scW G (ha 0) (rg 0), scW G (ha 1) (rg 1), scW G (ha 2) (rg 2), scW G (ha 3) (rg 3), scW G (ha 4) (rg 4), scW G (ha 5) (rg 5), sltW G S0, sltW G S1] [0, 2, 7, 8, 9, 10, 11, 12, 13, 6] [1, 3, 4, 5, 14, 15] rfl (by decide)) (kc' := kc) (ks' := ks) rfl rfl (rwI (ws' := (bl [gsW G ad (sltA S0) (sltA S1), mdW G a (fla x) hi sl sv mr mo mk mt mm me mw tx cl hl tl sp rd, scW G (ad 1) (scS x, rdF tl tx (8 * w_) (scF x) n_, x.2.2), scW G (ad 2) y, vwW G (ad 3) ur uo uk us ut uc um ue uq un_, vwW G (ad 4) zr zo zk zs zt zc zm ze zq zn_, pdW G (ad 5) tx 0, hiW G (ad 6) ha (onN ro hl) (hlN hl), scW G (ha 0) (rgu rg ((ro + hl) % 6) x 0), scW G (ha 1) (rgu rg ((ro + hl) % 6) x 1), scW G (ha 2) (rgu rg ((ro + hl) % 6) x 2), scW G (ha 3) (rgu rg ((ro + hl) % 6) x 3), scW G (ha 4) (rgu rg ((ro + hl) % 6) x 4), scW G (ha 5) (rgu rg ((ro + hl) % 6) x 5), sltW G S0, sltW G S1])) (pBs (n := 16) [gsW G ad (sltA S0) (sltA S1), mdW G a (fla x) hi sl sv mr mo mk mt mm me mw tx cl hl tl sp rd, scW G (ad 1) (scS x, rdF tl tx (8 * w_) (scF x) n_, x.2.2), scW G (ad 2) y, vwW G (ad 3) ur uo uk us ut uc um ue uq un_, vwW G (ad 4) zr zo zk zs zt zc zm ze zq zn_, pdW G (ad 5) tx 0, hiW G (ad 6) ha (onN ro hl) (hlN hl), scW G (ha 0) (rgu rg ((ro + hl) % 6) x 0), scW G (ha 1) (rgu rg ((ro + hl) % 6) x 1), scW G (ha 2) (rgu rg ((ro + hl) % 6) x 2), scW G (ha 3) (rgu rg ((ro + hl) % 6) x 3), scW G (ha 4) (rgu rg ((ro + hl) % 6) x 4), scW G (ha 5) (rgu rg ((ro + hl) % 6) x 5), sltW G S0, sltW G S1] [0, 2, 7, 8, 9, 10, 11, 12, 13, 6] [1, 3, 4, 5, 14, 15] rfl (by decide)).symm ?_)
        refine V.aload_n E dL_law_334 rfl rfl ?_
        refine V.aload_n E dL_law_335 rfl rfl ?_
        refine V.iload_n E dL_law_336 rfl rfl ?_
        refine V.iconst (v := nI (1)) E dL_law_337 (by decide) ?_
        refine V.iaddN E  dL_law_338 ?_
        refine V.sld (v := sc (i + 1)) E S (by omega) (rfl) dL_law_339 ?_
        refine V.if_eq (tgt := 347) E dL_law_340 (by decide) (fun h => absurd h hz) (fun _ => ?_)
        refine V.iconst (v := nI (bN true)) E dL_law_343 (by decide) ?_
        refine V.goto (tgt := 348) E dL_law_344 (by decide) ?_
        refine V.aload_n E dL_law_348 rfl rfl ?_
        refine V.iload_n E dL_law_349 rfl rfl ?_
        refine V.iconst (v := nI (2)) E dL_law_350 (by decide) ?_
        refine V.iaddN E  dL_law_351 ?_
        refine V.sld (v := nI (w_)) E S (by omega) (e2) dL_law_352 ?_
        refine V.callV (C := RX5) E (c_X5_read_t G a hi sl sv mr mo mk mt mm me mw tx cl hl tl sp rd x hh w_ n_ (q_t) (q_l) (q_H) (hw) (hf) (hG)) (bl [gsW G ad (sltA S0) (sltA S1), scW G (ad 1) (scS x, rdF tl tx (8 * w_) (scF x) n_, x.2.2), scW G (ad 2) y, vwW G (ad 3) ur uo uk us ut uc um ue uq un_, vwW G (ad 4) zr zo zk zs zt zc zm ze zq zn_, pdW G (ad 5) tx 0, hiW G (ad 6) ha (onN ro hl) (hlN hl), scW G (ha 0) (rgu rg ((ro + hl) % 6) x 0), scW G (ha 1) (rgu rg ((ro + hl) % 6) x 1), scW G (ha 2) (rgu rg ((ro + hl) % 6) x 2), scW G (ha 3) (rgu rg ((ro + hl) % 6) x 3), scW G (ha 4) (rgu rg ((ro + hl) % 6) x 4), scW G (ha 5) (rgu rg ((ro + hl) % 6) x 5), sltW G S0, sltW G S1]) [.int (nI (rdC tx n_))] 2 5 rfl rfl rfl gL_law_X5_read rfl ⟨rfl, hd_X5_read⟩ ⟨⟨Nat.le_of_ble_eq_true rfl, Nat.le_of_ble_eq_true rfl⟩, rmL hkc rfl, rmS hks rfl⟩ rfl (Nat.le_of_ble_eq_true rfl) rfl dL_law_353 (pBs (n := 16) [gsW G ad (sltA S0) (sltA S1), mdW G a (fla x) hi sl sv mr mo mk mt mm me mw tx cl hl tl sp rd, scW G (ad 1) (scS x, rdF tl tx (8 * w_) (scF x) n_, x.2.2), scW G (ad 2) y, vwW G (ad 3) ur uo uk us ut uc um ue uq un_, vwW G (ad 4) zr zo zk zs zt zc zm ze zq zn_, pdW G (ad 5) tx 0, hiW G (ad 6) ha (onN ro hl) (hlN hl), scW G (ha 0) (rgu rg ((ro + hl) % 6) x 0), scW G (ha 1) (rgu rg ((ro + hl) % 6) x 1), scW G (ha 2) (rgu rg ((ro + hl) % 6) x 2), scW G (ha 3) (rgu rg ((ro + hl) % 6) x 3), scW G (ha 4) (rgu rg ((ro + hl) % 6) x 4), scW G (ha 5) (rgu rg ((ro + hl) % 6) x 5), sltW G S0, sltW G S1] [1] [0, 2, 3, 4, 5, 6, 7, 8, 9, 10, 11, 12, 13, 14, 15] rfl (by decide)) (kc' := kc) (ks' := ks) rfl rfl (rxI (ws' := fun (g_353 : (Nat → Nat) × FG) => (bl [gsW G ad (sltA S0) (sltA S1), mdW G a (fla (scS x, rdF tl tx (8 * w_) (scF x) n_, x.2.2)) g_353.1 sl sv mr mo mk mt mm me mw tx g_353.2.2.2.2 (hlN hl) 0 g_353.2.2.1 g_353.2.2.2.1, scW G (ad 1) (scS x, rdF tl tx (8 * w_) (scF x) n_, x.2.2), scW G (ad 2) y, vwW G (ad 3) ur uo uk us ut uc um ue uq un_, vwW G (ad 4) zr zo zk zs zt zc zm ze zq zn_, pdW G (ad 5) tx 0, hiW G (ad 6) ha (onN ro hl) (hlN hl), scW G (ha 0) (rgu rg ((ro + hl) % 6) x 0), scW G (ha 1) (rgu rg ((ro + hl) % 6) x 1), scW G (ha 2) (rgu rg ((ro + hl) % 6) x 2), scW G (ha 3) (rgu rg ((ro + hl) % 6) x 3), scW G (ha 4) (rgu rg ((ro + hl) % 6) x 4), scW G (ha 5) (rgu rg ((ro + hl) % 6) x 5), sltW G S0, sltW G S1])) (fun g_353 => (pBs (n := 16) [gsW G ad (sltA S0) (sltA S1), mdW G a (fla (scS x, rdF tl tx (8 * w_) (scF x) n_, x.2.2)) g_353.1 sl sv mr mo mk mt mm me mw tx g_353.2.2.2.2 (hlN hl) 0 g_353.2.2.1 g_353.2.2.2.1, scW G (ad 1) (scS x, rdF tl tx (8 * w_) (scF x) n_, x.2.2), scW G (ad 2) y, vwW G (ad 3) ur uo uk us ut uc um ue uq un_, vwW G (ad 4) zr zo zk zs zt zc zm ze zq zn_, pdW G (ad 5) tx 0, hiW G (ad 6) ha (onN ro hl) (hlN hl), scW G (ha 0) (rgu rg ((ro + hl) % 6) x 0), scW G (ha 1) (rgu rg ((ro + hl) % 6) x 1), scW G (ha 2) (rgu rg ((ro + hl) % 6) x 2), scW G (ha 3) (rgu rg ((ro + hl) % 6) x 3), scW G (ha 4) (rgu rg ((ro + hl) % 6) x 4), scW G (ha 5) (rgu rg ((ro + hl) % 6) x 5), sltW G S0, sltW G S1] [1] [0, 2, 3, 4, 5, 6, 7, 8, 9, 10, 11, 12, 13, 14, 15] rfl (by decide)).symm) (fun g_353 hf_353 => ?_))
        refine V.icmp_eq (tgt := 762) E dL_law_356 (by decide) (fun _ => ?_) (fun h => absurd rfl h)
        refine V.widen (k := kc + 5) (n := ks + 155) (Nat.le_add_right _ _) (Nat.le_add_right _ _) ?_
        exact K g_353.1 sl sv mr mo mk mt mm me mw tx g_353.2.2.2.2 (hlN hl) 0 g_353.2.2.1 g_353.2.2.2.1 (scS x, rdF tl tx (8 * w_) (scF x) n_, x.2.2) y ur uo uk us ut uc um ue uq un_ zr zo zk zs zt zc zm ze zq zn_ (onN ro hl) (rgu rg ((ro + hl) % 6) x) (hhN x hl hh) S0 S1 (LI.txt (LI.rem q (q_x.fr (rdF_in hG q_x.f _ (Nat.le_refl _))) hf_353) q_t.wipe)
      · refine V.aload_n E dL_law_312 rfl rfl ?_
        refine V.aload_n E dL_law_313 rfl rfl ?_
        refine V.iload_n E dL_law_314 rfl rfl ?_
        refine V.iconst (v := nI (1)) E dL_law_315 (by decide) ?_
        refine V.iaddN E  dL_law_316 ?_
        refine V.sld (v := sc (i + 1)) E S (by omega) (rfl) dL_law_317 ?_
        refine V.if_eq (tgt := 325) E dL_law_318 (by decide) (fun h => absurd h hz) (fun _ => ?_)
        refine V.iconst (v := nI (bN true)) E dL_law_321 (by decide) ?_
        refine V.goto (tgt := 326) E dL_law_322 (by decide) ?_
        refine V.aload_n E dL_law_326 rfl rfl ?_
        refine V.iload_n E dL_law_327 rfl rfl ?_
        refine V.iconst (v := nI (2)) E dL_law_328 (by decide) ?_
        refine V.iaddN E  dL_law_329 ?_
        refine V.sld (v := nI (w_)) E S (by omega) (e2) dL_law_330 ?_
        refine V.callV (C := RX4) E (c_X4_read_no G ad (sltA S0) (sltA S1) tx tl x (bN true) w_ (q_t) (hw) (hf)) (bl [mdW G a (fla x) hi sl sv mr mo mk mt mm me mw tx cl hl tl sp rd, scW G (ad 1) x, scW G (ad 2) y, vwW G (ad 3) ur uo uk us ut uc um ue uq un_, vwW G (ad 4) zr zo zk zs zt zc zm ze zq zn_, hiW G (ad 6) ha ro hl, scW G (ha 0) (rg 0), scW G (ha 1) (rg 1), scW G (ha 2) (rg 2), scW G (ha 3) (rg 3), scW G (ha 4) (rg 4), scW G (ha 5) (rg 5), sltW G S0, sltW G S1]) [] 0 4 rfl rfl rfl gL_law_X4_read rfl ⟨rfl, hd_X4_read⟩ ⟨⟨Nat.le_of_ble_eq_true rfl, Nat.le_of_ble_eq_true rfl⟩, rmL hkc rfl, rmS hks rfl⟩ rfl (Nat.le_of_ble_eq_true rfl) rfl dL_law_331 (pBs (n := 16) [gsW G ad (sltA S0) (sltA S1), mdW G a (fla x) hi sl sv mr mo mk mt mm me mw tx cl hl tl sp rd, scW G (ad 1) x, scW G (ad 2) y, vwW G (ad 3) ur uo uk us ut uc um ue uq un_, vwW G (ad 4) zr zo zk zs zt zc zm ze zq zn_, pdW G (ad 5) tx tl, hiW G (ad 6) ha ro hl, scW G (ha 0) (rg 0), scW G (ha 1) (rg 1), scW G (ha 2) (rg 2), scW G (ha 3) (rg 3), scW G (ha 4) (rg 4), scW G (ha 5) (rg 5), sltW G S0, sltW G S1] [0, 6] [1, 2, 3, 4, 5, 7, 8, 9, 10, 11, 12, 13, 14, 15] rfl (by decide)) (kc' := kc) (ks' := ks) rfl rfl (rwI (ws' := (bl [gsW G ad (sltA S0) (sltA S1), mdW G a (fla x) hi sl sv mr mo mk mt mm me mw tx cl hl tl sp rd, scW G (ad 1) x, scW G (ad 2) y, vwW G (ad 3) ur uo uk us ut uc um ue uq un_, vwW G (ad 4) zr zo zk zs zt zc zm ze zq zn_, pdW G (ad 5) tx tl, hiW G (ad 6) ha ro hl, scW G (ha 0) (rg 0), scW G (ha 1) (rg 1), scW G (ha 2) (rg 2), scW G (ha 3) (rg 3), scW G (ha 4) (rg 4), scW G (ha 5) (rg 5), sltW G S0, sltW G S1])) (pBs (n := 16) [gsW G ad (sltA S0) (sltA S1), mdW G a (fla x) hi sl sv mr mo mk mt mm me mw tx cl hl tl sp rd, scW G (ad 1) x, scW G (ad 2) y, vwW G (ad 3) ur uo uk us ut uc um ue uq un_, vwW G (ad 4) zr zo zk zs zt zc zm ze zq zn_, pdW G (ad 5) tx tl, hiW G (ad 6) ha ro hl, scW G (ha 0) (rg 0), scW G (ha 1) (rg 1), scW G (ha 2) (rg 2), scW G (ha 3) (rg 3), scW G (ha 4) (rg 4), scW G (ha 5) (rg 5), sltW G S0, sltW G S1] [0, 6] [1, 2, 3, 4, 5, 7, 8, 9, 10, 11, 12, 13, 14, 15] rfl (by decide)).symm ?_)
        refine V.aload_n E dL_law_334 rfl rfl ?_
        refine V.aload_n E dL_law_335 rfl rfl ?_
        refine V.iload_n E dL_law_336 rfl rfl ?_
        refine V.iconst (v := nI (1)) E dL_law_337 (by decide) ?_
        refine V.iaddN E  dL_law_338 ?_
        refine V.sld (v := sc (i + 1)) E S (by omega) (rfl) dL_law_339 ?_
        refine V.if_eq (tgt := 347) E dL_law_340 (by decide) (fun h => absurd h hz) (fun _ => ?_)
        refine V.iconst (v := nI (bN true)) E dL_law_343 (by decide) ?_
        refine V.goto (tgt := 348) E dL_law_344 (by decide) ?_
        refine V.aload_n E dL_law_348 rfl rfl ?_
        refine V.iload_n E dL_law_349 rfl rfl ?_
        refine V.iconst (v := nI (2)) E dL_law_350 (by decide) ?_
        refine V.iaddN E  dL_law_351 ?_
        refine V.sld (v := nI (w_)) E S (by omega) (e2) dL_law_352 ?_
        refine V.callV (C := RX5) E (c_X5_read_no G a hi sl sv mr mo mk mt mm me mw tx cl hl tl sp rd x (bN true) w_ (q_t) (hw) (hf)) (bl [gsW G ad (sltA S0) (sltA S1), scW G (ad 1) x, scW G (ad 2) y, vwW G (ad 3) ur uo uk us ut uc um ue uq un_, vwW G (ad 4) zr zo zk zs zt zc zm ze zq zn_, pdW G (ad 5) tx tl, hiW G (ad 6) ha ro hl, scW G (ha 0) (rg 0), scW G (ha 1) (rg 1), scW G (ha 2) (rg 2), scW G (ha 3) (rg 3), scW G (ha 4) (rg 4), scW G (ha 5) (rg 5), sltW G S0, sltW G S1]) [.int ((-3 : Int32))] 2 5 rfl rfl rfl gL_law_X5_read rfl ⟨rfl, hd_X5_read⟩ ⟨⟨Nat.le_of_ble_eq_true rfl, Nat.le_of_ble_eq_true rfl⟩, rmL hkc rfl, rmS hks rfl⟩ rfl (Nat.le_of_ble_eq_true rfl) rfl dL_law_353 (pBs (n := 16) [gsW G ad (sltA S0) (sltA S1), mdW G a (fla x) hi sl sv mr mo mk mt mm me mw tx cl hl tl sp rd, scW G (ad 1) x, scW G (ad 2) y, vwW G (ad 3) ur uo uk us ut uc um ue uq un_, vwW G (ad 4) zr zo zk zs zt zc zm ze zq zn_, pdW G (ad 5) tx tl, hiW G (ad 6) ha ro hl, scW G (ha 0) (rg 0), scW G (ha 1) (rg 1), scW G (ha 2) (rg 2), scW G (ha 3) (rg 3), scW G (ha 4) (rg 4), scW G (ha 5) (rg 5), sltW G S0, sltW G S1] [1] [0, 2, 3, 4, 5, 6, 7, 8, 9, 10, 11, 12, 13, 14, 15] rfl (by decide)) (kc' := kc) (ks' := ks) rfl rfl (rxI (ws' := fun (g_353 : FG) => (bl [gsW G ad (sltA S0) (sltA S1), mdW G a (fla x) hi sl sv mr mo mk mt mm me mw tx g_353.2.2.2 hl tl g_353.2.1 g_353.2.2.1, scW G (ad 1) x, scW G (ad 2) y, vwW G (ad 3) ur uo uk us ut uc um ue uq un_, vwW G (ad 4) zr zo zk zs zt zc zm ze zq zn_, pdW G (ad 5) tx tl, hiW G (ad 6) ha ro hl, scW G (ha 0) (rg 0), scW G (ha 1) (rg 1), scW G (ha 2) (rg 2), scW G (ha 3) (rg 3), scW G (ha 4) (rg 4), scW G (ha 5) (rg 5), sltW G S0, sltW G S1])) (fun g_353 => (pBs (n := 16) [gsW G ad (sltA S0) (sltA S1), mdW G a (fla x) hi sl sv mr mo mk mt mm me mw tx g_353.2.2.2 hl tl g_353.2.1 g_353.2.2.1, scW G (ad 1) x, scW G (ad 2) y, vwW G (ad 3) ur uo uk us ut uc um ue uq un_, vwW G (ad 4) zr zo zk zs zt zc zm ze zq zn_, pdW G (ad 5) tx tl, hiW G (ad 6) ha ro hl, scW G (ha 0) (rg 0), scW G (ha 1) (rg 1), scW G (ha 2) (rg 2), scW G (ha 3) (rg 3), scW G (ha 4) (rg 4), scW G (ha 5) (rg 5), sltW G S0, sltW G S1] [1] [0, 2, 3, 4, 5, 6, 7, 8, 9, 10, 11, 12, 13, 14, 15] rfl (by decide)).symm) (fun g_353 hf_353 => ?_))
        refine V.icmp_eq (tgt := 762) E dL_law_356 (by decide) (fun _ => ?_) (fun h => absurd rfl h)
        refine V.widen (k := kc + 5) (n := ks + 155) (Nat.le_add_right _ _) (Nat.le_add_right _ _) ?_
        exact K hi sl sv mr mo mk mt mm me mw tx g_353.2.2.2 hl tl g_353.2.1 g_353.2.2.1 x y ur uo uk us ut uc um ue uq un_ zr zo zk zs zt zc zm ze zq zn_ ro rg hh S0 S1 (q)
