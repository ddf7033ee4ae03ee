/-! isWell -/
theorem clo_t {f g : Nat → Nat} {i : Nat} (h : f i = g i) : sumN i (fun j => bN (!decide (f j = g j))) + 0 = sumN (i + 1) (fun j => bN (!decide (f j = g j))) := by
  show _ = _ + bN (!decide (f i = g i))
  rw [decide_eq_true h]
  rfl
theorem clo_f {f g : Nat → Nat} {i : Nat} (h : ¬ f i = g i) : sumN i (fun j => bN (!decide (f j = g j))) + 1 = sumN (i + 1) (fun j => bN (!decide (f j = g j))) := by
  show _ = _ + bN (!decide (f i = g i))
  rw [decide_eq_false h]
  rfl
theorem and_1 (m : Nat) : nI m &&& nI 1 = nI (m % 2) := by
  apply Int32.toBitVec_inj.mp
  rw [Int32.toBitVec_and, ni_bv, ni_bv, ni_bv]
  apply BitVec.eq_of_toNat_eq
  rw [BitVec.toNat_and, BitVec.toNat_ofNat, BitVec.toNat_ofNat, BitVec.toNat_ofNat]
  have e : 1 % 2 ^ 32 = 2 ^ 1 - 1 := rfl
  rw [e, Nat.and_two_pow_sub_one_eq_mod]
  omega
theorem row_1 (x : SC) (p : Nat) : nI (mskN (fun j => decide (kndF x (8 * (p / 8) + j) = kndF x p)) 8 / 2 ^ (p % 8)) &&& nI 1 = nI 1 :=
  (and_1 _).trans (congrArg nI (mskN_bit _ _ (decide_eq_true (congrArg (kndF x) (by omega))) 8 (by omega)))
theorem ks_5 (x : SC) (t n : Nat) : sumN 5 (fun k => cnN x t n (7 + k)) = 48 := by
  have := wl_kinds x t n
  show 0 + cnN x t n 7 + cnN x t n 8 + cnN x t n 9 + cnN x t n 10 + cnN x t n 11 = 48
  omega
abbrev rm_o_isWell : Room := { frames := 7, cells := 0, slots := 0, locals := 154 }
theorem hd_L_isWell : yL_isWell.cls ≠ "java/lang/invoke/MethodHandle" ∧ yL_isWell.cls ≠ "java/lang/invoke/VarHandle" ∧ (parseMethodDescriptor yL_isWell.desc).map (fun d => d.parameters.length) = some 1 := by decide +kernel
set_option maxRecDepth 100000 in
set_option maxHeartbeats 8000000 in
theorem o_isWell (G : VC) (ad : AD) (ha : AD) (q : OQ) (j : OJ) (hq : OBI q) : Ctr yL_isWell wsL_isWell rm_o_isWell G [.ref (ad 0 0)] (bl [obW G ad ha q j, slB G q]) (fun v9_ u9_ => ∃ zz : OJ, u9_ = (bl [obW G ad ha q zz, slB G q]) ∧ v9_ = some (.int (nI (1))) ∧ (True)) := by
  refine Ctr.int (cc := cL_isWell) (maxL := 13) (ret := (some .boolean)) (lv0 := [some (.ref (ad 0 0)), none, none, none, none, none, none, none, none, none, none, none, none]) (by decide) rfl rfl rfl (Nat.le_of_ble_eq_true rfl) rfl (fun A X E hend => ?_)
  refine V.iconst (v := nI (0)) E dL_isWell_0 (by decide) ?_
  refine V.istore_n (lv' := [some (.ref (ad 0 0)), some (.int (nI (0))), none, none, none, none, none, none, none, none, none, none, none]) E dL_isWell_1 rfl (Nat.le_of_ble_eq_true rfl) rfl rfl ?_
  refine V.iconst (v := nI (0)) E dL_isWell_2 (by decide) ?_
  refine V.istore_n (lv' := [some (.ref (ad 0 0)), some (.int (nI (0))), some (.int (nI (0))), none, none, none, none, none, none, none, none, none, none]) E dL_isWell_3 rfl (Nat.le_of_ble_eq_true rfl) rfl rfl ?_
  refine V.iconst (v := nI (0)) E dL_isWell_4 (by decide) ?_
  refine V.istore_n (lv' := [some (.ref (ad 0 0)), some (.int (nI (0))), some (.int (nI (0))), some (.int (nI (0))), none, none, none, none, none, none, none, none, none]) E dL_isWell_5 rfl (Nat.le_of_ble_eq_true rfl) rfl rfl ?_
  refine V.iconst (v := nI (0)) E dL_isWell_6 (by decide) ?_
  refine V.istore (lv' := [some (.ref (ad 0 0)), some (.int (nI (0))), some (.int (nI (0))), some (.int (nI (0))), some (.int (nI (0))), none, none, none, none, none, none, none, none]) E dL_isWell_7 (Nat.le_of_ble_eq_true rfl) rfl rfl ?_
  refine V.iconst (v := nI (0)) E dL_isWell_9 (by decide) ?_
  refine V.istore (lv' := [some (.ref (ad 0 0)), some (.int (nI (0))), some (.int (nI (0))), some (.int (nI (0))), some (.int (nI (0))), some (.int (nI (0))), none, none, none, none, none, none, none]) E dL_isWell_10 (Nat.le_of_ble_eq_true rfl) rfl rfl ?_
  refine V.iconst (v := nI (1)) E dL_isWell_12 (by decide) ?_
  refine V.istore (lv' := [some (.ref (ad 0 0)), some (.int (nI (0))), some (.int (nI (0))), some (.int (nI (0))), some (.int (nI (0))), some (.int (nI (0))), some (.int (nI (1))), none, none, none, none, none, none]) E dL_isWell_13 (Nat.le_of_ble_eq_true rfl) rfl rfl ?_
  refine V.iconst (v := nI (0)) E dL_isWell_15 (by decide) ?_
  refine V.istore (lv' := [some (.ref (ad 0 0)), some (.int (nI (0))), some (.int (nI (0))), some (.int (nI (0))), some (.int (nI (0))), some (.int (nI (0))), some (.int (nI (1))), some (.int (nI (0))), none, none, none, none, none]) E dL_isWell_16 (Nat.le_of_ble_eq_true rfl) rfl rfl ?_
  refine V.locN (b := sumN 0 (opqF (oX q))) (lv' := [some (.ref (ad 0 0)), some (.int (nI (sumN 0 (opqF (oX q))))), some (.int (nI (0))), some (.int (nI (0))), some (.int (nI (0))), some (.int (nI (0))), some (.int (nI (1))), some (.int (nI (0))), none, none, none, none, none]) 1 (rfl) rfl rfl ?_
  refine V.locN (b := sumN 0 (splF (oX q))) (lv' := [some (.ref (ad 0 0)), some (.int (nI (sumN 0 (opqF (oX q))))), some (.int (nI (sumN 0 (splF (oX q))))), some (.int (nI (0))), some (.int (nI (0))), some (.int (nI (0))), some (.int (nI (1))), some (.int (nI (0))), none, none, none, none, none]) 2 (rfl) rfl rfl ?_
  refine V.locN (b := sumN 0 (tknF (oX q))) (lv' := [some (.ref (ad 0 0)), some (.int (nI (sumN 0 (opqF (oX q))))), some (.int (nI (sumN 0 (splF (oX q))))), some (.int (nI (sumN 0 (tknF (oX q))))), some (.int (nI (0))), some (.int (nI (0))), some (.int (nI (1))), some (.int (nI (0))), none, none, none, none, none]) 3 (rfl) rfl rfl ?_
  refine V.locN (b := sumN 0 (fun j => bN (!decide (opqF (oX q) j = rawF (oX q) j)))) (lv' := [some (.ref (ad 0 0)), some (.int (nI (sumN 0 (opqF (oX q))))), some (.int (nI (sumN 0 (splF (oX q))))), some (.int (nI (sumN 0 (tknF (oX q))))), some (.int (nI (sumN 0 (fun j => bN (!decide (opqF (oX q) j = rawF (oX q) j)))))), some (.int (nI (0))), some (.int (nI (1))), some (.int (nI (0))), none, none, none, none, none]) 4 (rfl) rfl rfl ?_
  refine loopN (P := fun i18 => ∀ jj : OJ, (True) → V G A X rm_o_isWell (bl [obW G ad ha q jj, slB G q]) 0 0 18 [some (.ref (ad 0 0)), some (.int (nI (sumN i18 (opqF (oX q))))), some (.int (nI (sumN i18 (splF (oX q))))), some (.int (nI (sumN i18 (tknF (oX q))))), some (.int (nI (sumN i18 (fun j => bN (!decide (opqF (oX q) j = rawF (oX q) j)))))), some (.int (nI (0))), some (.int (nI (1))), some (.int (nI (i18))), none, none, none, none, none] []) 48 (fun i18 hi_18 ih_18 jj hg_18 => ?_) 0 (Nat.zero_le _) j (trivial)
  refine V.iload E dL_isWell_18 rfl ?_
  refine V.bipush (v := nI (48)) E dL_isWell_20 (by decide) ?_
  refine V.icmp_geN (tgt := 434) E (by omega) (by omega) dL_isWell_22 (by decide) (fun q_22 => ?_) (fun q_22 => ?_)
  · obtain rfl : i18 = 48 := by omega
    refine V.iconst (v := nI (0)) E dL_isWell_434 (by decide) ?_
    refine V.istore (lv' := [some (.ref (ad 0 0)), some (.int (nI (sumN 48 (opqF (oX q))))), some (.int (nI (sumN 48 (splF (oX q))))), some (.int (nI (sumN 48 (tknF (oX q))))), some (.int (nI (sumN 48 (fun j => bN (!decide (opqF (oX q) j = rawF (oX q) j)))))), some (.int (nI (0))), some (.int (nI (1))), some (.int (nI (0))), none, none, none, none, none]) E dL_isWell_435 (Nat.le_of_ble_eq_true rfl) rfl rfl ?_
    refine V.locN (b := sumN 0 (fun k => cnN (oX q) (oL q) (oN q) (7 + k))) (lv' := [some (.ref (ad 0 0)), some (.int (nI (sumN 48 (opqF (oX q))))), some (.int (nI (sumN 48 (splF (oX q))))), some (.int (nI (sumN 48 (tknF (oX q))))), some (.int (nI (sumN 48 (fun j => bN (!decide (opqF (oX q) j = rawF (oX q) j)))))), some (.int (nI (sumN 0 (fun k => cnN (oX q) (oL q) (oN q) (7 + k))))), some (.int (nI (1))), some (.int (nI (0))), none, none, none, none, none]) 5 (rfl) rfl rfl ?_
    refine loopN (P := fun i437 => ∀ jk : OJ, (True) → V G A X rm_o_isWell (bl [obW G ad ha q jk, slB G q]) 0 0 437 [some (.ref (ad 0 0)), some (.int (nI (sumN 48 (opqF (oX q))))), some (.int (nI (sumN 48 (splF (oX q))))), some (.int (nI (sumN 48 (tknF (oX q))))), some (.int (nI (sumN 48 (fun j => bN (!decide (opqF (oX q) j = rawF (oX q) j)))))), some (.int (nI (sumN i437 (fun k => cnN (oX q) (oL q) (oN q) (7 + k))))), some (.int (nI (1))), some (.int (nI (i437))), none, none, none, none, none] []) 5 (fun i437 hi_437 ih_437 jk hg_437 => ?_) 0 (Nat.zero_le _) jj (trivial)
    refine V.iload E dL_isWell_437 rfl ?_
    refine V.iconst (v := nI (5)) E dL_isWell_439 (by decide) ?_
    refine V.icmp_geN (tgt := 463) E (by omega) (by omega) dL_isWell_440 (by decide) (fun q_440 => ?_) (fun q_440 => ?_)
    · obtain rfl : i437 = 5 := by omega
      refine V.iload E dL_isWell_463 rfl ?_
      refine V.if_eqN (tgt := 548) E (by omega) dL_isWell_465 (by decide) (fun q_465 => absurd q_465 (by decide)) (fun q_465 => ?_)
      refine V.iload_n E dL_isWell_468 rfl rfl ?_
      refine V.aload_n E dL_isWell_469 rfl rfl ?_
      refine V.bipush (v := nI (12)) E dL_isWell_470 (by decide) ?_
      refine V.callV (C := RX4) E (o_count G ad ha q jk 12 (hq) (by decide)) (bl []) [.int (nI (sumN 48 (opqF (oX q))))] 0 4 rfl rfl rfl gL_isWell_X4_count rfl ⟨rfl, hd_X4_count⟩ ⟨⟨Nat.le_of_ble_eq_true rfl, Nat.le_of_ble_eq_true rfl⟩, Nat.le_of_ble_eq_true rfl, Nat.le_of_ble_eq_true rfl⟩ rfl (Nat.le_of_ble_eq_true rfl) rfl dL_isWell_472 (pBs (n := 2) [obW G ad ha q jk, slB G q] [0, 1] [] rfl (by decide)) (kc' := 0) (ks' := 0) rfl rfl (rxI (ws' := fun (g_472 : OJ) => (bl [obW G ad ha q g_472, slB G q])) (fun g_472 => (pBs (n := 2) [obW G ad ha q g_472, slB G q] [0, 1] [] rfl (by decide)).symm) (fun g_472 hf_472 => ?_))
      refine V.icmp_ne (tgt := 548) E dL_isWell_475 (by decide) (fun q_475 => ?_) (fun q_475 => ?_)
      · exact absurd rfl q_475
      · refine V.iload_n E dL_isWell_478 rfl rfl ?_
        refine V.aload_n E dL_isWell_479 rfl rfl ?_
        refine V.bipush (v := nI (13)) E dL_isWell_480 (by decide) ?_
        refine V.callV (C := RX4) E (o_count G ad ha q g_472 13 (hq) (by decide)) (bl []) [.int (nI (sumN 48 (splF (oX q))))] 0 4 rfl rfl rfl gL_isWell_X4_count rfl ⟨rfl, hd_X4_count⟩ ⟨⟨Nat.le_of_ble_eq_true rfl, Nat.le_of_ble_eq_true rfl⟩, Nat.le_of_ble_eq_true rfl, Nat.le_of_ble_eq_true rfl⟩ rfl (Nat.le_of_ble_eq_true rfl) rfl dL_isWell_482 (pBs (n := 2) [obW G ad ha q g_472, slB G q] [0, 1] [] rfl (by decide)) (kc' := 0) (ks' := 0) rfl rfl (rxI (ws' := fun (g_482 : OJ) => (bl [obW G ad ha q g_482, slB G q])) (fun g_482 => (pBs (n := 2) [obW G ad ha q g_482, slB G q] [0, 1] [] rfl (by decide)).symm) (fun g_482 hf_482 => ?_))
        refine V.icmp_ne (tgt := 548) E dL_isWell_485 (by decide) (fun q_485 => ?_) (fun q_485 => ?_)
        · exact absurd rfl q_485
        · refine V.iload_n E dL_isWell_488 rfl rfl ?_
          refine V.aload_n E dL_isWell_489 rfl rfl ?_
          refine V.bipush (v := nI (14)) E dL_isWell_490 (by decide) ?_
          refine V.callV (C := RX4) E (o_count G ad ha q g_482 14 (hq) (by decide)) (bl []) [.int (nI (sumN 48 (tknF (oX q))))] 0 4 rfl rfl rfl gL_isWell_X4_count rfl ⟨rfl, hd_X4_count⟩ ⟨⟨Nat.le_of_ble_eq_true rfl, Nat.le_of_ble_eq_true rfl⟩, Nat.le_of_ble_eq_true rfl, Nat.le_of_ble_eq_true rfl⟩ rfl (Nat.le_of_ble_eq_true rfl) rfl dL_isWell_492 (pBs (n := 2) [obW G ad ha q g_482, slB G q] [0, 1] [] rfl (by decide)) (kc' := 0) (ks' := 0) rfl rfl (rxI (ws' := fun (g_492 : OJ) => (bl [obW G ad ha q g_492, slB G q])) (fun g_492 => (pBs (n := 2) [obW G ad ha q g_492, slB G q] [0, 1] [] rfl (by decide)).symm) (fun g_492 hf_492 => ?_))
          refine V.icmp_ne (tgt := 548) E dL_isWell_495 (by decide) (fun q_495 => ?_) (fun q_495 => ?_)
          · exact absurd rfl q_495
          · refine V.iload E dL_isWell_498 rfl ?_
            refine V.aload_n E dL_isWell_500 rfl rfl ?_
            refine V.bipush (v := nI (15)) E dL_isWell_501 (by decide) ?_
            refine V.callV (C := RX4) E (o_count G ad ha q g_492 15 (hq) (by decide)) (bl []) [.int (nI (sumN 48 (fun j => bN (!decide (opqF (oX q) j = rawF (oX q) j)))))] 0 4 rfl rfl rfl gL_isWell_X4_count rfl ⟨rfl, hd_X4_count⟩ ⟨⟨Nat.le_of_ble_eq_true rfl, Nat.le_of_ble_eq_true rfl⟩, Nat.le_of_ble_eq_true rfl, Nat.le_of_ble_eq_true rfl⟩ rfl (Nat.le_of_ble_eq_true rfl) rfl dL_isWell_503 (pBs (n := 2) [obW G ad ha q g_492, slB G q] [0, 1] [] rfl (by decide)) (kc' := 0) (ks' := 0) rfl rfl (rxI (ws' := fun (g_503 : OJ) => (bl [obW G ad ha q g_503, slB G q])) (fun g_503 => (pBs (n := 2) [obW G ad ha q g_503, slB G q] [0, 1] [] rfl (by decide)).symm) (fun g_503 hf_503 => ?_))
            refine V.icmp_ne (tgt := 548) E dL_isWell_506 (by decide) (fun q_506 => ?_) (fun q_506 => ?_)
            · exact absurd rfl q_506
            · refine V.iload E dL_isWell_509 rfl ?_
              refine V.bipush (v := nI (48)) E dL_isWell_511 (by decide) ?_
              refine V.icmp_ne (tgt := 548) E dL_isWell_513 (by decide) (fun q_513 => ?_) (fun q_513 => ?_)
              · exact absurd (congrArg nI (ks_5 (oX q) _ _)) q_513
              · refine V.aload_n E dL_isWell_516 rfl rfl ?_
                refine V.bipush (v := nI (11)) E dL_isWell_517 (by decide) ?_
                refine V.callV (C := RX4) E (o_count G ad ha q g_503 11 (hq) (by decide)) (bl []) [] 0 4 rfl rfl rfl gL_isWell_X4_count rfl ⟨rfl, hd_X4_count⟩ ⟨⟨Nat.le_of_ble_eq_true rfl, Nat.le_of_ble_eq_true rfl⟩, Nat.le_of_ble_eq_true rfl, Nat.le_of_ble_eq_true rfl⟩ rfl (Nat.le_of_ble_eq_true rfl) rfl dL_isWell_519 (pBs (n := 2) [obW G ad ha q g_503, slB G q] [0, 1] [] rfl (by decide)) (kc' := 0) (ks' := 0) rfl rfl (rxI (ws' := fun (g_519 : OJ) => (bl [obW G ad ha q g_519, slB G q])) (fun g_519 => (pBs (n := 2) [obW G ad ha q g_519, slB G q] [0, 1] [] rfl (by decide)).symm) (fun g_519 hf_519 => ?_))
                refine V.aload_n E dL_isWell_522 rfl rfl ?_
                refine V.bipush (v := nI (18)) E dL_isWell_523 (by decide) ?_
                refine V.callV (C := RX4) E (o_count G ad ha q g_519 18 (hq) (by decide)) (bl []) [.int (nI (cnN (oX q) (oL q) (oN q) 11))] 0 4 rfl rfl rfl gL_isWell_X4_count rfl ⟨rfl, hd_X4_count⟩ ⟨⟨Nat.le_of_ble_eq_true rfl, Nat.le_of_ble_eq_true rfl⟩, Nat.le_of_ble_eq_true rfl, Nat.le_of_ble_eq_true rfl⟩ rfl (Nat.le_of_ble_eq_true rfl) rfl dL_isWell_525 (pBs (n := 2) [obW G ad ha q g_519, slB G q] [0, 1] [] rfl (by decide)) (kc' := 0) (ks' := 0) rfl rfl (rxI (ws' := fun (g_525 : OJ) => (bl [obW G ad ha q g_525, slB G q])) (fun g_525 => (pBs (n := 2) [obW G ad ha q g_525, slB G q] [0, 1] [] rfl (by decide)).symm) (fun g_525 hf_525 => ?_))
                refine V.icmp_ne (tgt := 548) E dL_isWell_528 (by decide) (fun q_528 => ?_) (fun q_528 => ?_)
                · exact absurd (congrArg nI (wl_glass hq.x _ _)) q_528
                · refine V.aload_n E dL_isWell_531 rfl rfl ?_
                  refine V.iconst (v := nI (0)) E dL_isWell_532 (by decide) ?_
                  refine V.callV (C := RX4) E (o_count G ad ha q g_525 0 (hq) (by decide)) (bl []) [] 0 4 rfl rfl rfl gL_isWell_X4_count rfl ⟨rfl, hd_X4_count⟩ ⟨⟨Nat.le_of_ble_eq_true rfl, Nat.le_of_ble_eq_true rfl⟩, Nat.le_of_ble_eq_true rfl, Nat.le_of_ble_eq_true rfl⟩ rfl (Nat.le_of_ble_eq_true rfl) rfl dL_isWell_533 (pBs (n := 2) [obW G ad ha q g_525, slB G q] [0, 1] [] rfl (by decide)) (kc' := 0) (ks' := 0) rfl rfl (rxI (ws' := fun (g_533 : OJ) => (bl [obW G ad ha q g_533, slB G q])) (fun g_533 => (pBs (n := 2) [obW G ad ha q g_533, slB G q] [0, 1] [] rfl (by decide)).symm) (fun g_533 hf_533 => ?_))
                  refine V.topN (b := scS (oX q) 0) (rfl) ?_
                  refine V.aload_n E dL_isWell_536 rfl rfl ?_
                  refine V.iconst (v := nI (1)) E dL_isWell_537 (by decide) ?_
                  refine V.callV (C := RX4) E (o_count G ad ha q g_533 1 (hq) (by decide)) (bl []) [.int (nI (scS (oX q) 0))] 0 4 rfl rfl rfl gL_isWell_X4_count rfl ⟨rfl, hd_X4_count⟩ ⟨⟨Nat.le_of_ble_eq_true rfl, Nat.le_of_ble_eq_true rfl⟩, Nat.le_of_ble_eq_true rfl, Nat.le_of_ble_eq_true rfl⟩ rfl (Nat.le_of_ble_eq_true rfl) rfl dL_isWell_538 (pBs (n := 2) [obW G ad ha q g_533, slB G q] [0, 1] [] rfl (by decide)) (kc' := 0) (ks' := 0) rfl rfl (rxI (ws' := fun (g_538 : OJ) => (bl [obW G ad ha q g_538, slB G q])) (fun g_538 => (pBs (n := 2) [obW G ad ha q g_538, slB G q] [0, 1] [] rfl (by decide)).symm) (fun g_538 hf_538 => ?_))
                  refine V.topN (b := scS (oX q) 1) (rfl) ?_
                  refine V.icmp_geN (tgt := 548) E (Nat.lt_of_le_of_lt hq.x.s0 (by decide)) (Nat.lt_of_le_of_lt hq.x.s1 (by decide)) dL_isWell_541 (by decide) (fun q_541 => ?_) (fun q_541 => ?_)
                  · exact absurd hq.x.lt (Nat.not_lt.mpr q_541)
                  · refine V.iconst (v := nI (1)) E dL_isWell_544 (by decide) ?_
                    refine V.goto (tgt := 549) E dL_isWell_545 (by decide) ?_
                    exact hend _ _ _ _ dL_isWell_549 (nrB true) ⟨g_538, rfl, rfl, trivial⟩
    · refine V.iload E dL_isWell_443 rfl ?_
      refine V.aload_n E dL_isWell_445 rfl rfl ?_
      refine V.bipush (v := nI (7)) E dL_isWell_446 (by decide) ?_
      refine V.iload E dL_isWell_448 rfl ?_
      refine V.iaddN E  dL_isWell_450 ?_
      refine V.callV (C := RX4) E (o_count G ad ha q jk (7 + i437) (hq) (by omega)) (bl []) [.int (nI (sumN i437 (fun k => cnN (oX q) (oL q) (oN q) (7 + k))))] 0 4 rfl rfl rfl gL_isWell_X4_count rfl ⟨rfl, hd_X4_count⟩ ⟨⟨Nat.le_of_ble_eq_true rfl, Nat.le_of_ble_eq_true rfl⟩, Nat.le_of_ble_eq_true rfl, Nat.le_of_ble_eq_true rfl⟩ rfl (Nat.le_of_ble_eq_true rfl) rfl dL_isWell_451 (pBs (n := 2) [obW G ad ha q jk, slB G q] [0, 1] [] rfl (by decide)) (kc' := 0) (ks' := 0) rfl rfl (rxI (ws' := fun (g_451 : OJ) => (bl [obW G ad ha q g_451, slB G q])) (fun g_451 => (pBs (n := 2) [obW G ad ha q g_451, slB G q] [0, 1] [] rfl (by decide)).symm) (fun g_451 hf_451 => ?_))
      refine V.iaddN E  dL_isWell_454 ?_
      refine V.istore (lv' := [some (.ref (ad 0 0)), some (.int (nI (sumN 48 (opqF (oX q))))), some (.int (nI (sumN 48 (splF (oX q))))), some (.int (nI (sumN 48 (tknF (oX q))))), some (.int (nI (sumN 48 (fun j => bN (!decide (opqF (oX q) j = rawF (oX q) j)))))), some (.int (nI ((sumN i437 (fun k => cnN (oX q) (oL q) (oN q) (7 + k))) + (cnN (oX q) (oL q) (oN q) (7 + i437))))), some (.int (nI (1))), some (.int (nI (i437))), none, none, none, none, none]) E dL_isWell_455 (Nat.le_of_ble_eq_true rfl) rfl rfl ?_
      refine V.iincN (lv' := [some (.ref (ad 0 0)), some (.int (nI (sumN 48 (opqF (oX q))))), some (.int (nI (sumN 48 (splF (oX q))))), some (.int (nI (sumN 48 (tknF (oX q))))), some (.int (nI (sumN 48 (fun j => bN (!decide (opqF (oX q) j = rawF (oX q) j)))))), some (.int (nI ((sumN i437 (fun k => cnN (oX q) (oL q) (oN q) (7 + k))) + (cnN (oX q) (oL q) (oN q) (7 + i437))))), some (.int (nI (1))), some (.int (nI (i437 + 1))), none, none, none, none, none]) E dL_isWell_457 rfl (Nat.le_of_ble_eq_true rfl) rfl rfl ?_
      refine V.goto (tgt := 437) E dL_isWell_460 (by decide) ?_
      refine V.locN (b := sumN (i437 + 1) (fun k => cnN (oX q) (oL q) (oN q) (7 + k))) (lv' := [some (.ref (ad 0 0)), some (.int (nI (sumN 48 (opqF (oX q))))), some (.int (nI (sumN 48 (splF (oX q))))), some (.int (nI (sumN 48 (tknF (oX q))))), some (.int (nI (sumN 48 (fun j => bN (!decide (opqF (oX q) j = rawF (oX q) j)))))), some (.int (nI (sumN (i437 + 1) (fun k => cnN (oX q) (oL q) (oN q) (7 + k))))), some (.int (nI (1))), some (.int (nI (i437 + 1))), none, none, none, none, none]) 5 (rfl) rfl rfl ?_
      exact ih_437 (by omega) g_451 (trivial)
  · have hi_18b : i18 < 48 := by omega
    have hkl := kndF_le (oX q) i18
    have hol := opqF_le (oX q) i18
    have hrl := rawF_le (oX q) i18
    have htl := tknF_lt hq.x i18
    have hsl := splF_lt (oX q) i18
    have hdl := dist_le (scF (oX q) i18) (scC (oX q))
    have hs0 := hq.x.s0
    have hs1 := hq.x.s1
    have hkd := wl_kind (x := oX q) i18
    have hto := wl_out hq.x i18
    refine V.aload_n E dL_isWell_25 rfl rfl ?_
    refine V.iload E dL_isWell_26 rfl ?_
    refine V.iconst (v := nI (3)) E dL_isWell_28 (by decide) ?_
    refine V.callV (C := RX4) E (o_pixel G ad ha q jj i18 3 (hq) (hi_18b) (by decide)) (bl []) [] 0 4 rfl rfl rfl gL_isWell_X4_pixel rfl ⟨rfl, hd_X4_pixel⟩ ⟨⟨Nat.le_of_ble_eq_true rfl, Nat.le_of_ble_eq_true rfl⟩, Nat.le_of_ble_eq_true rfl, Nat.le_of_ble_eq_true rfl⟩ rfl (Nat.le_of_ble_eq_true rfl) rfl dL_isWell_29 (pBs (n := 2) [obW G ad ha q jj, slB G q] [0, 1] [] rfl (by decide)) (kc' := 0) (ks' := 0) rfl rfl (rxI (ws' := fun (g_29 : OJ) => (bl [obW G ad ha q g_29, slB G q])) (fun g_29 => (pBs (n := 2) [obW G ad ha q g_29, slB G q] [0, 1] [] rfl (by decide)).symm) (fun g_29 hf_29 => ?_))
    refine V.topN (b := rawF (oX q) i18) (rfl) ?_
    refine V.istore (lv' := [some (.ref (ad 0 0)), some (.int (nI (sumN i18 (opqF (oX q))))), some (.int (nI (sumN i18 (splF (oX q))))), some (.int (nI (sumN i18 (tknF (oX q))))), some (.int (nI (sumN i18 (fun j => bN (!decide (opqF (oX q) j = rawF (oX q) j)))))), some (.int (nI (0))), some (.int (nI (1))), some (.int (nI (i18))), some (.int (nI (rawF (oX q) i18))), none, none, none, none]) E dL_isWell_32 (Nat.le_of_ble_eq_true rfl) rfl rfl ?_
    refine V.aload_n E dL_isWell_34 rfl rfl ?_
    refine V.iload E dL_isWell_35 rfl ?_
    refine V.iconst (v := nI (4)) E dL_isWell_37 (by decide) ?_
    refine V.callV (C := RX4) E (o_pixel G ad ha q g_29 i18 4 (hq) (hi_18b) (by decide)) (bl []) [] 0 4 rfl rfl rfl gL_isWell_X4_pixel rfl ⟨rfl, hd_X4_pixel⟩ ⟨⟨Nat.le_of_ble_eq_true rfl, Nat.le_of_ble_eq_true rfl⟩, Nat.le_of_ble_eq_true rfl, Nat.le_of_ble_eq_true rfl⟩ rfl (Nat.le_of_ble_eq_true rfl) rfl dL_isWell_38 (pBs (n := 2) [obW G ad ha q g_29, slB G q] [0, 1] [] rfl (by decide)) (kc' := 0) (ks' := 0) rfl rfl (rxI (ws' := fun (g_38 : OJ) => (bl [obW G ad ha q g_38, slB G q])) (fun g_38 => (pBs (n := 2) [obW G ad ha q g_38, slB G q] [0, 1] [] rfl (by decide)).symm) (fun g_38 hf_38 => ?_))
    refine V.topN (b := opqF (oX q) i18) (rfl) ?_
    refine V.istore (lv' := [some (.ref (ad 0 0)), some (.int (nI (sumN i18 (opqF (oX q))))), some (.int (nI (sumN i18 (splF (oX q))))), some (.int (nI (sumN i18 (tknF (oX q))))), some (.int (nI (sumN i18 (fun j => bN (!decide (opqF (oX q) j = rawF (oX q) j)))))), some (.int (nI (0))), some (.int (nI (1))), some (.int (nI (i18))), some (.int (nI (rawF (oX q) i18))), some (.int (nI (opqF (oX q) i18))), none, none, none]) E dL_isWell_41 (Nat.le_of_ble_eq_true rfl) rfl rfl ?_
    refine V.aload_n E dL_isWell_43 rfl rfl ?_
    refine V.iload E dL_isWell_44 rfl ?_
    refine V.iconst (v := nI (5)) E dL_isWell_46 (by decide) ?_
    refine V.callV (C := RX4) E (o_pixel G ad ha q g_38 i18 5 (hq) (hi_18b) (by decide)) (bl []) [] 0 4 rfl rfl rfl gL_isWell_X4_pixel rfl ⟨rfl, hd_X4_pixel⟩ ⟨⟨Nat.le_of_ble_eq_true rfl, Nat.le_of_ble_eq_true rfl⟩, Nat.le_of_ble_eq_true rfl, Nat.le_of_ble_eq_true rfl⟩ rfl (Nat.le_of_ble_eq_true rfl) rfl dL_isWell_47 (pBs (n := 2) [obW G ad ha q g_38, slB G q] [0, 1] [] rfl (by decide)) (kc' := 0) (ks' := 0) rfl rfl (rxI (ws' := fun (g_47 : OJ) => (bl [obW G ad ha q g_47, slB G q])) (fun g_47 => (pBs (n := 2) [obW G ad ha q g_47, slB G q] [0, 1] [] rfl (by decide)).symm) (fun g_47 hf_47 => ?_))
    refine V.topN (b := kndF (oX q) i18) (rfl) ?_
    refine V.istore (lv' := [some (.ref (ad 0 0)), some (.int (nI (sumN i18 (opqF (oX q))))), some (.int (nI (sumN i18 (splF (oX q))))), some (.int (nI (sumN i18 (tknF (oX q))))), some (.int (nI (sumN i18 (fun j => bN (!decide (opqF (oX q) j = rawF (oX q) j)))))), some (.int (nI (0))), some (.int (nI (1))), some (.int (nI (i18))), some (.int (nI (rawF (oX q) i18))), some (.int (nI (opqF (oX q) i18))), some (.int (nI (kndF (oX q) i18))), none, none]) E dL_isWell_50 (Nat.le_of_ble_eq_true rfl) rfl rfl ?_
    refine V.aload_n E dL_isWell_52 rfl rfl ?_
    refine V.iload E dL_isWell_53 rfl ?_
    refine V.bipush (v := nI (7)) E dL_isWell_55 (by decide) ?_
    refine V.callV (C := RX4) E (o_pixel G ad ha q g_47 i18 7 (hq) (hi_18b) (by decide)) (bl []) [] 0 4 rfl rfl rfl gL_isWell_X4_pixel rfl ⟨rfl, hd_X4_pixel⟩ ⟨⟨Nat.le_of_ble_eq_true rfl, Nat.le_of_ble_eq_true rfl⟩, Nat.le_of_ble_eq_true rfl, Nat.le_of_ble_eq_true rfl⟩ rfl (Nat.le_of_ble_eq_true rfl) rfl dL_isWell_57 (pBs (n := 2) [obW G ad ha q g_47, slB G q] [0, 1] [] rfl (by decide)) (kc' := 0) (ks' := 0) rfl rfl (rxI (ws' := fun (g_57 : OJ) => (bl [obW G ad ha q g_57, slB G q])) (fun g_57 => (pBs (n := 2) [obW G ad ha q g_57, slB G q] [0, 1] [] rfl (by decide)).symm) (fun g_57 hf_57 => ?_))
    refine V.topN (b := tknF (oX q) i18) (rfl) ?_
    refine V.istore (lv' := [some (.ref (ad 0 0)), some (.int (nI (sumN i18 (opqF (oX q))))), some (.int (nI (sumN i18 (splF (oX q))))), some (.int (nI (sumN i18 (tknF (oX q))))), some (.int (nI (sumN i18 (fun j => bN (!decide (opqF (oX q) j = rawF (oX q) j)))))), some (.int (nI (0))), some (.int (nI (1))), some (.int (nI (i18))), some (.int (nI (rawF (oX q) i18))), some (.int (nI (opqF (oX q) i18))), some (.int (nI (kndF (oX q) i18))), some (.int (nI (tknF (oX q) i18))), none]) E dL_isWell_60 (Nat.le_of_ble_eq_true rfl) rfl rfl ?_
    refine V.aload_n E dL_isWell_62 rfl rfl ?_
    refine V.iload E dL_isWell_63 rfl ?_
    refine V.iconst (v := nI (2)) E dL_isWell_65 (by decide) ?_
    refine V.callV (C := RX4) E (o_pixel G ad ha q g_57 i18 2 (hq) (hi_18b) (by decide)) (bl []) [] 0 4 rfl rfl rfl gL_isWell_X4_pixel rfl ⟨rfl, hd_X4_pixel⟩ ⟨⟨Nat.le_of_ble_eq_true rfl, Nat.le_of_ble_eq_true rfl⟩, Nat.le_of_ble_eq_true rfl, Nat.le_of_ble_eq_true rfl⟩ rfl (Nat.le_of_ble_eq_true rfl) rfl dL_isWell_66 (pBs (n := 2) [obW G ad ha q g_57, slB G q] [0, 1] [] rfl (by decide)) (kc' := 0) (ks' := 0) rfl rfl (rxI (ws' := fun (g_66 : OJ) => (bl [obW G ad ha q g_66, slB G q])) (fun g_66 => (pBs (n := 2) [obW G ad ha q g_66, slB G q] [0, 1] [] rfl (by decide)).symm) (fun g_66 hf_66 => ?_))
    refine V.topN (b := dist (scF (oX q) i18) (scC (oX q))) (rfl) ?_
    refine V.istore (lv' := [some (.ref (ad 0 0)), some (.int (nI (sumN i18 (opqF (oX q))))), some (.int (nI (sumN i18 (splF (oX q))))), some (.int (nI (sumN i18 (tknF (oX q))))), some (.int (nI (sumN i18 (fun j => bN (!decide (opqF (oX q) j = rawF (oX q) j)))))), some (.int (nI (0))), some (.int (nI (1))), some (.int (nI (i18))), some (.int (nI (rawF (oX q) i18))), some (.int (nI (opqF (oX q) i18))), some (.int (nI (kndF (oX q) i18))), some (.int (nI (tknF (oX q) i18))), some (.int (nI (dist (scF (oX q) i18) (scC (oX q)))))]) E dL_isWell_69 (Nat.le_of_ble_eq_true rfl) rfl rfl ?_
    refine V.iload_n E dL_isWell_71 rfl rfl ?_
    refine V.iload E dL_isWell_72 rfl ?_
    refine V.iaddN E  dL_isWell_74 ?_
    refine V.istore_n (lv' := [some (.ref (ad 0 0)), some (.int (nI ((sumN i18 (opqF (oX q))) + (opqF (oX q) i18)))), some (.int (nI (sumN i18 (splF (oX q))))), some (.int (nI (sumN i18 (tknF (oX q))))), some (.int (nI (sumN i18 (fun j => bN (!decide (opqF (oX q) j = rawF (oX q) j)))))), some (.int (nI (0))), some (.int (nI (1))), some (.int (nI (i18))), some (.int (nI (rawF (oX q) i18))), some (.int (nI (opqF (oX q) i18))), some (.int (nI (kndF (oX q) i18))), some (.int (nI (tknF (oX q) i18))), some (.int (nI (dist (scF (oX q) i18) (scC (oX q)))))]) E dL_isWell_75 rfl (Nat.le_of_ble_eq_true rfl) rfl rfl ?_
    refine V.iload_n E dL_isWell_76 rfl rfl ?_
    refine V.aload_n E dL_isWell_77 rfl rfl ?_
    refine V.iload E dL_isWell_78 rfl ?_
    refine V.bipush (v := nI (6)) E dL_isWell_80 (by decide) ?_
    refine V.callV (C := RX4) E (o_pixel G ad ha q g_66 i18 6 (hq) (hi_18b) (by decide)) (bl []) [.int (nI (sumN i18 (splF (oX q))))] 0 4 rfl rfl rfl gL_isWell_X4_pixel rfl ⟨rfl, hd_X4_pixel⟩ ⟨⟨Nat.le_of_ble_eq_true rfl, Nat.le_of_ble_eq_true rfl⟩, Nat.le_of_ble_eq_true rfl, Nat.le_of_ble_eq_true rfl⟩ rfl (Nat.le_of_ble_eq_true rfl) rfl dL_isWell_82 (pBs (n := 2) [obW G ad ha q g_66, slB G q] [0, 1] [] rfl (by decide)) (kc' := 0) (ks' := 0) rfl rfl (rxI (ws' := fun (g_82 : OJ) => (bl [obW G ad ha q g_82, slB G q])) (fun g_82 => (pBs (n := 2) [obW G ad ha q g_82, slB G q] [0, 1] [] rfl (by decide)).symm) (fun g_82 hf_82 => ?_))
    refine V.topN (b := splF (oX q) i18) (rfl) ?_
    refine V.iaddN E  dL_isWell_85 ?_
    refine V.istore_n (lv' := [some (.ref (ad 0 0)), some (.int (nI ((sumN i18 (opqF (oX q))) + (opqF (oX q) i18)))), some (.int (nI ((sumN i18 (splF (oX q))) + (splF (oX q) i18)))), some (.int (nI (sumN i18 (tknF (oX q))))), some (.int (nI (sumN i18 (fun j => bN (!decide (opqF (oX q) j = rawF (oX q) j)))))), some (.int (nI (0))), some (.int (nI (1))), some (.int (nI (i18))), some (.int (nI (rawF (oX q) i18))), some (.int (nI (opqF (oX q) i18))), some (.int (nI (kndF (oX q) i18))), some (.int (nI (tknF (oX q) i18))), some (.int (nI (dist (scF (oX q) i18) (scC (oX q)))))]) E dL_isWell_86 rfl (Nat.le_of_ble_eq_true rfl) rfl rfl ?_
    refine V.iload_n E dL_isWell_87 rfl rfl ?_
    refine V.iload E dL_isWell_88 rfl ?_
    refine V.iaddN E  dL_isWell_90 ?_
    refine V.istore_n (lv' := [some (.ref (ad 0 0)), some (.int (nI ((sumN i18 (opqF (oX q))) + (opqF (oX q) i18)))), some (.int (nI ((sumN i18 (splF (oX q))) + (splF (oX q) i18)))), some (.int (nI ((sumN i18 (tknF (oX q))) + (tknF (oX q) i18)))), some (.int (nI (sumN i18 (fun j => bN (!decide (opqF (oX q) j = rawF (oX q) j)))))), some (.int (nI (0))), some (.int (nI (1))), some (.int (nI (i18))), some (.int (nI (rawF (oX q) i18))), some (.int (nI (opqF (oX q) i18))), some (.int (nI (kndF (oX q) i18))), some (.int (nI (tknF (oX q) i18))), some (.int (nI (dist (scF (oX q) i18) (scC (oX q)))))]) E dL_isWell_91 rfl (Nat.le_of_ble_eq_true rfl) rfl rfl ?_
    have hJ_107 : V G A X rm_o_isWell (bl [obW G ad ha q g_82, slB G q]) 0 0 107 [some (.ref (ad 0 0)), some (.int (nI ((sumN i18 (opqF (oX q))) + (opqF (oX q) i18)))), some (.int (nI ((sumN i18 (splF (oX q))) + (splF (oX q) i18)))), some (.int (nI ((sumN i18 (tknF (oX q))) + (tknF (oX q) i18)))), some (.int (nI (sumN i18 (fun j => bN (!decide (opqF (oX q) j = rawF (oX q) j)))))), some (.int (nI (0))), some (.int (nI (1))), some (.int (nI (i18))), some (.int (nI (rawF (oX q) i18))), some (.int (nI (opqF (oX q) i18))), some (.int (nI (kndF (oX q) i18))), some (.int (nI (tknF (oX q) i18))), some (.int (nI (dist (scF (oX q) i18) (scC (oX q)))))] [.int (nI (sumN (i18 + 1) (fun j => bN (!decide (opqF (oX q) j = rawF (oX q) j)))))] := by
      refine V.istore (lv' := [some (.ref (ad 0 0)), some (.int (nI ((sumN i18 (opqF (oX q))) + (opqF (oX q) i18)))), some (.int (nI ((sumN i18 (splF (oX q))) + (splF (oX q) i18)))), some (.int (nI ((sumN i18 (tknF (oX q))) + (tknF (oX q) i18)))), some (.int (nI (sumN (i18 + 1) (fun j => bN (!decide (opqF (oX q) j = rawF (oX q) j)))))), some (.int (nI (0))), some (.int (nI (1))), some (.int (nI (i18))), some (.int (nI (rawF (oX q) i18))), some (.int (nI (opqF (oX q) i18))), some (.int (nI (kndF (oX q) i18))), some (.int (nI (tknF (oX q) i18))), some (.int (nI (dist (scF (oX q) i18) (scC (oX q)))))]) E dL_isWell_107 (Nat.le_of_ble_eq_true rfl) rfl rfl ?_
      have hJ_222 : ∀ k1 : OJ, V G A X rm_o_isWell (bl [obW G ad ha q k1, slB G q]) 0 0 222 [some (.ref (ad 0 0)), some (.int (nI ((sumN i18 (opqF (oX q))) + (opqF (oX q) i18)))), some (.int (nI ((sumN i18 (splF (oX q))) + (splF (oX q) i18)))), some (.int (nI ((sumN i18 (tknF (oX q))) + (tknF (oX q) i18)))), some (.int (nI (sumN (i18 + 1) (fun j => bN (!decide (opqF (oX q) j = rawF (oX q) j)))))), some (.int (nI (0))), some (.int (nI (1))), some (.int (nI (i18))), some (.int (nI (rawF (oX q) i18))), some (.int (nI (opqF (oX q) i18))), some (.int (nI (kndF (oX q) i18))), some (.int (nI (tknF (oX q) i18))), some (.int (nI (dist (scF (oX q) i18) (scC (oX q)))))] [.int (nI (1))] := by
        intro k1
        refine V.istore (lv' := [some (.ref (ad 0 0)), some (.int (nI ((sumN i18 (opqF (oX q))) + (opqF (oX q) i18)))), some (.int (nI ((sumN i18 (splF (oX q))) + (splF (oX q) i18)))), some (.int (nI ((sumN i18 (tknF (oX q))) + (tknF (oX q) i18)))), some (.int (nI (sumN (i18 + 1) (fun j => bN (!decide (opqF (oX q) j = rawF (oX q) j)))))), some (.int (nI (0))), some (.int (nI (1))), some (.int (nI (i18))), some (.int (nI (rawF (oX q) i18))), some (.int (nI (opqF (oX q) i18))), some (.int (nI (kndF (oX q) i18))), some (.int (nI (tknF (oX q) i18))), some (.int (nI (dist (scF (oX q) i18) (scC (oX q)))))]) E dL_isWell_222 (Nat.le_of_ble_eq_true rfl) rfl rfl ?_
        have hJ_356 : ∀ k2 : OJ, V G A X rm_o_isWell (bl [obW G ad ha q k2, slB G q]) 0 0 356 [some (.ref (ad 0 0)), some (.int (nI ((sumN i18 (opqF (oX q))) + (opqF (oX q) i18)))), some (.int (nI ((sumN i18 (splF (oX q))) + (splF (oX q) i18)))), some (.int (nI ((sumN i18 (tknF (oX q))) + (tknF (oX q) i18)))), some (.int (nI (sumN (i18 + 1) (fun j => bN (!decide (opqF (oX q) j = rawF (oX q) j)))))), some (.int (nI (0))), some (.int (nI (1))), some (.int (nI (i18))), some (.int (nI (rawF (oX q) i18))), some (.int (nI (opqF (oX q) i18))), some (.int (nI (kndF (oX q) i18))), some (.int (nI (tknF (oX q) i18))), some (.int (nI (dist (scF (oX q) i18) (scC (oX q)))))] [.int (nI (1))] := by
          intro k2
          refine V.istore (lv' := [some (.ref (ad 0 0)), some (.int (nI ((sumN i18 (opqF (oX q))) + (opqF (oX q) i18)))), some (.int (nI ((sumN i18 (splF (oX q))) + (splF (oX q) i18)))), some (.int (nI ((sumN i18 (tknF (oX q))) + (tknF (oX q) i18)))), some (.int (nI (sumN (i18 + 1) (fun j => bN (!decide (opqF (oX q) j = rawF (oX q) j)))))), some (.int (nI (0))), some (.int (nI (1))), some (.int (nI (i18))), some (.int (nI (rawF (oX q) i18))), some (.int (nI (opqF (oX q) i18))), some (.int (nI (kndF (oX q) i18))), some (.int (nI (tknF (oX q) i18))), some (.int (nI (dist (scF (oX q) i18) (scC (oX q)))))]) E dL_isWell_356 (Nat.le_of_ble_eq_true rfl) rfl rfl ?_
          have hJ_426 : V G A X rm_o_isWell (bl [obW G ad ha q k2, slB G q]) 0 0 426 [some (.ref (ad 0 0)), some (.int (nI ((sumN i18 (opqF (oX q))) + (opqF (oX q) i18)))), some (.int (nI ((sumN i18 (splF (oX q))) + (splF (oX q) i18)))), some (.int (nI ((sumN i18 (tknF (oX q))) + (tknF (oX q) i18)))), some (.int (nI (sumN (i18 + 1) (fun j => bN (!decide (opqF (oX q) j = rawF (oX q) j)))))), some (.int (nI (0))), some (.int (nI (1))), some (.int (nI (i18))), some (.int (nI (rawF (oX q) i18))), some (.int (nI (opqF (oX q) i18))), some (.int (nI (kndF (oX q) i18))), some (.int (nI (tknF (oX q) i18))), some (.int (nI (dist (scF (oX q) i18) (scC (oX q)))))] [.int (nI (1))] := by
            refine V.istore (lv' := [some (.ref (ad 0 0)), some (.int (nI ((sumN i18 (opqF (oX q))) + (opqF (oX q) i18)))), some (.int (nI ((sumN i18 (splF (oX q))) + (splF (oX q) i18)))), some (.int (nI ((sumN i18 (tknF (oX q))) + (tknF (oX q) i18)))), some (.int (nI (sumN (i18 + 1) (fun j => bN (!decide (opqF (oX q) j = rawF (oX q) j)))))), some (.int (nI (0))), some (.int (nI (1))), some (.int (nI (i18))), some (.int (nI (rawF (oX q) i18))), some (.int (nI (opqF (oX q) i18))), some (.int (nI (kndF (oX q) i18))), some (.int (nI (tknF (oX q) i18))), some (.int (nI (dist (scF (oX q) i18) (scC (oX q)))))]) E dL_isWell_426 (Nat.le_of_ble_eq_true rfl) rfl rfl ?_
            refine V.iincN (lv' := [some (.ref (ad 0 0)), some (.int (nI ((sumN i18 (opqF (oX q))) + (opqF (oX q) i18)))), some (.int (nI ((sumN i18 (splF (oX q))) + (splF (oX q) i18)))), some (.int (nI ((sumN i18 (tknF (oX q))) + (tknF (oX q) i18)))), some (.int (nI (sumN (i18 + 1) (fun j => bN (!decide (opqF (oX q) j = rawF (oX q) j)))))), some (.int (nI (0))), some (.int (nI (1))), some (.int (nI (i18 + 1))), some (.int (nI (rawF (oX q) i18))), some (.int (nI (opqF (oX q) i18))), some (.int (nI (kndF (oX q) i18))), some (.int (nI (tknF (oX q) i18))), some (.int (nI (dist (scF (oX q) i18) (scC (oX q)))))]) E dL_isWell_428 rfl (Nat.le_of_ble_eq_true rfl) rfl rfl ?_
            refine V.goto (tgt := 18) E dL_isWell_431 (by decide) ?_
            refine V.drop (lv' := [some (.ref (ad 0 0)), some (.int (nI ((sumN i18 (opqF (oX q))) + (opqF (oX q) i18)))), some (.int (nI ((sumN i18 (splF (oX q))) + (splF (oX q) i18)))), some (.int (nI ((sumN i18 (tknF (oX q))) + (tknF (oX q) i18)))), some (.int (nI (sumN (i18 + 1) (fun j => bN (!decide (opqF (oX q) j = rawF (oX q) j)))))), some (.int (nI (0))), some (.int (nI (1))), some (.int (nI (i18 + 1))), none, none, none, none, none]) [true, true, true, true, true, true, true, true, false, false, false, false, false] rfl ?_
            refine V.locN (b := sumN (i18 + 1) (opqF (oX q))) (lv' := [some (.ref (ad 0 0)), some (.int (nI (sumN (i18 + 1) (opqF (oX q))))), some (.int (nI ((sumN i18 (splF (oX q))) + (splF (oX q) i18)))), some (.int (nI ((sumN i18 (tknF (oX q))) + (tknF (oX q) i18)))), some (.int (nI (sumN (i18 + 1) (fun j => bN (!decide (opqF (oX q) j = rawF (oX q) j)))))), some (.int (nI (0))), some (.int (nI (1))), some (.int (nI (i18 + 1))), none, none, none, none, none]) 1 (rfl) rfl rfl ?_
            refine V.locN (b := sumN (i18 + 1) (splF (oX q))) (lv' := [some (.ref (ad 0 0)), some (.int (nI (sumN (i18 + 1) (opqF (oX q))))), some (.int (nI (sumN (i18 + 1) (splF (oX q))))), some (.int (nI ((sumN i18 (tknF (oX q))) + (tknF (oX q) i18)))), some (.int (nI (sumN (i18 + 1) (fun j => bN (!decide (opqF (oX q) j = rawF (oX q) j)))))), some (.int (nI (0))), some (.int (nI (1))), some (.int (nI (i18 + 1))), none, none, none, none, none]) 2 (rfl) rfl rfl ?_
            refine V.locN (b := sumN (i18 + 1) (tknF (oX q))) (lv' := [some (.ref (ad 0 0)), some (.int (nI (sumN (i18 + 1) (opqF (oX q))))), some (.int (nI (sumN (i18 + 1) (splF (oX q))))), some (.int (nI (sumN (i18 + 1) (tknF (oX q))))), some (.int (nI (sumN (i18 + 1) (fun j => bN (!decide (opqF (oX q) j = rawF (oX q) j)))))), some (.int (nI (0))), some (.int (nI (1))), some (.int (nI (i18 + 1))), none, none, none, none, none]) 3 (rfl) rfl rfl ?_
            exact ih_18 (by omega) k2 (trivial)
          refine V.iload E dL_isWell_358 rfl ?_
          refine V.if_eqN (tgt := 425) E (by omega) dL_isWell_360 (by decide) (fun q_360 => absurd q_360 (by decide)) (fun q_360 => ?_)
          refine V.iload E dL_isWell_363 rfl ?_
          refine V.iconst (v := nI (4)) E dL_isWell_365 (by decide) ?_
          refine V.icmp_eqN (tgt := 421) E (by omega) (by omega) dL_isWell_366 (by decide) (fun q_366 => ?_) (fun q_366 => ?_)
          · refine V.iconst (v := nI (1)) E dL_isWell_421 (by decide) ?_
            refine V.goto (tgt := 426) E dL_isWell_422 (by decide) ?_
            exact hJ_426 
          · refine V.iload E dL_isWell_369 rfl ?_
            refine V.if_neN (tgt := 384) E (by omega) dL_isWell_371 (by decide) (fun q_371 => ?_) (fun q_371 => ?_)
            · refine V.iload E dL_isWell_384 rfl ?_
              refine V.iconst (v := nI (3)) E dL_isWell_386 (by decide) ?_
              refine V.icmp_neN (tgt := 397) E (by omega) (by omega) dL_isWell_387 (by decide) (fun q_387 => ?_) (fun q_387 => ?_)
              · refine V.iload E dL_isWell_397 rfl ?_
                refine V.iconst (v := nI (1)) E dL_isWell_399 (by decide) ?_
                refine V.icmp_eqN (tgt := 409) E (by omega) (by omega) dL_isWell_400 (by decide) (fun q_400 => ?_) (fun q_400 => ?_)
                · refine V.iload E dL_isWell_409 rfl ?_
                  refine V.if_leN (tgt := 425) E (by omega) dL_isWell_411 (by decide) (fun q_411 => ?_) (fun q_411 => ?_)
                  · exfalso; omega
                  · refine V.iload E dL_isWell_414 rfl ?_
                    refine V.bipush (v := nI (16)) E dL_isWell_416 (by decide) ?_
                    refine V.icmp_geN (tgt := 425) E (by omega) (by omega) dL_isWell_418 (by decide) (fun q_418 => ?_) (fun q_418 => ?_)
                    · exfalso; omega
                    · refine V.iconst (v := nI (1)) E dL_isWell_421 (by decide) ?_
                      refine V.goto (tgt := 426) E dL_isWell_422 (by decide) ?_
                      exact hJ_426 
                · refine V.iload E dL_isWell_403 rfl ?_
                  refine V.iconst (v := nI (2)) E dL_isWell_405 (by decide) ?_
                  refine V.icmp_neN (tgt := 425) E (by omega) (by omega) dL_isWell_406 (by decide) (fun q_406 => ?_) (fun q_406 => ?_)
                  · exfalso; omega
                  · refine V.iload E dL_isWell_409 rfl ?_
                    refine V.if_leN (tgt := 425) E (by omega) dL_isWell_411 (by decide) (fun q_411 => ?_) (fun q_411 => ?_)
                    · exfalso; omega
                    · refine V.iload E dL_isWell_414 rfl ?_
                      refine V.bipush (v := nI (16)) E dL_isWell_416 (by decide) ?_
                      refine V.icmp_geN (tgt := 425) E (by omega) (by omega) dL_isWell_418 (by decide) (fun q_418 => ?_) (fun q_418 => ?_)
                      · exfalso; omega
                      · refine V.iconst (v := nI (1)) E dL_isWell_421 (by decide) ?_
                        refine V.goto (tgt := 426) E dL_isWell_422 (by decide) ?_
                        exact hJ_426 
              · refine V.iload E dL_isWell_390 rfl ?_
                refine V.bipush (v := nI (16)) E dL_isWell_392 (by decide) ?_
                refine V.icmp_eqN (tgt := 421) E (by omega) (by omega) dL_isWell_394 (by decide) (fun q_394 => ?_) (fun q_394 => ?_)
                · refine V.iconst (v := nI (1)) E dL_isWell_421 (by decide) ?_
                  refine V.goto (tgt := 426) E dL_isWell_422 (by decide) ?_
                  exact hJ_426 
                · exfalso; omega
            · refine V.iload E dL_isWell_374 rfl ?_
              refine V.if_neN (tgt := 384) E (by omega) dL_isWell_376 (by decide) (fun q_376 => ?_) (fun q_376 => ?_)
              · exfalso; omega
              · refine V.iload E dL_isWell_379 rfl ?_
                refine V.if_eqN (tgt := 421) E (by omega) dL_isWell_381 (by decide) (fun q_381 => ?_) (fun q_381 => ?_)
                · refine V.iconst (v := nI (1)) E dL_isWell_421 (by decide) ?_
                  refine V.goto (tgt := 426) E dL_isWell_422 (by decide) ?_
                  exact hJ_426 
                · exfalso; omega
        refine V.iload E dL_isWell_224 rfl ?_
        refine V.if_eqN (tgt := 355) E (by omega) dL_isWell_226 (by decide) (fun q_226 => absurd q_226 (by decide)) (fun q_226 => ?_)
        have hJ_279 : ∀ k3 : OJ, V G A X rm_o_isWell (bl [obW G ad ha q k3, slB G q]) 0 0 279 [some (.ref (ad 0 0)), some (.int (nI ((sumN i18 (opqF (oX q))) + (opqF (oX q) i18)))), some (.int (nI ((sumN i18 (splF (oX q))) + (splF (oX q) i18)))), some (.int (nI ((sumN i18 (tknF (oX q))) + (tknF (oX q) i18)))), some (.int (nI (sumN (i18 + 1) (fun j => bN (!decide (opqF (oX q) j = rawF (oX q) j)))))), some (.int (nI (0))), some (.int (nI (1))), some (.int (nI (i18))), some (.int (nI (rawF (oX q) i18))), some (.int (nI (opqF (oX q) i18))), some (.int (nI (kndF (oX q) i18))), some (.int (nI (tknF (oX q) i18))), some (.int (nI (dist (scF (oX q) i18) (scC (oX q)))))] [] := by
          intro k3
          have hJ_302 : ∀ k4 : OJ, V G A X rm_o_isWell (bl [obW G ad ha q k4, slB G q]) 0 0 302 [some (.ref (ad 0 0)), some (.int (nI ((sumN i18 (opqF (oX q))) + (opqF (oX q) i18)))), some (.int (nI ((sumN i18 (splF (oX q))) + (splF (oX q) i18)))), some (.int (nI ((sumN i18 (tknF (oX q))) + (tknF (oX q) i18)))), some (.int (nI (sumN (i18 + 1) (fun j => bN (!decide (opqF (oX q) j = rawF (oX q) j)))))), some (.int (nI (0))), some (.int (nI (1))), some (.int (nI (i18))), some (.int (nI (rawF (oX q) i18))), some (.int (nI (opqF (oX q) i18))), some (.int (nI (kndF (oX q) i18))), some (.int (nI (tknF (oX q) i18))), some (.int (nI (dist (scF (oX q) i18) (scC (oX q)))))] [] := by
            intro k4
            have hJ_328 : ∀ k5 : OJ, V G A X rm_o_isWell (bl [obW G ad ha q k5, slB G q]) 0 0 328 [some (.ref (ad 0 0)), some (.int (nI ((sumN i18 (opqF (oX q))) + (opqF (oX q) i18)))), some (.int (nI ((sumN i18 (splF (oX q))) + (splF (oX q) i18)))), some (.int (nI ((sumN i18 (tknF (oX q))) + (tknF (oX q) i18)))), some (.int (nI (sumN (i18 + 1) (fun j => bN (!decide (opqF (oX q) j = rawF (oX q) j)))))), some (.int (nI (0))), some (.int (nI (1))), some (.int (nI (i18))), some (.int (nI (rawF (oX q) i18))), some (.int (nI (opqF (oX q) i18))), some (.int (nI (kndF (oX q) i18))), some (.int (nI (tknF (oX q) i18))), some (.int (nI (dist (scF (oX q) i18) (scC (oX q)))))] [] := by
              intro k5
              refine V.iload E dL_isWell_328 rfl ?_
              refine V.if_gtN (tgt := 351) E (by omega) dL_isWell_330 (by decide) (fun q_330 => ?_) (fun q_330 => ?_)
              · refine V.iconst (v := nI (1)) E dL_isWell_351 (by decide) ?_
                refine V.goto (tgt := 356) E dL_isWell_352 (by decide) ?_
                exact hJ_356 _
              · refine V.aload_n E dL_isWell_333 rfl rfl ?_
                refine V.iload E dL_isWell_334 rfl ?_
                refine V.bipush (v := nI (8)) E dL_isWell_336 (by decide) ?_
                refine V.callV (C := RX4) E (o_pixel G ad ha q k5 i18 8 (hq) (hi_18b) (by decide)) (bl []) [] 0 4 rfl rfl rfl gL_isWell_X4_pixel rfl ⟨rfl, hd_X4_pixel⟩ ⟨⟨Nat.le_of_ble_eq_true rfl, Nat.le_of_ble_eq_true rfl⟩, Nat.le_of_ble_eq_true rfl, Nat.le_of_ble_eq_true rfl⟩ rfl (Nat.le_of_ble_eq_true rfl) rfl dL_isWell_338 (pBs (n := 2) [obW G ad ha q k5, slB G q] [0, 1] [] rfl (by decide)) (kc' := 0) (ks' := 0) rfl rfl (rxI (ws' := fun (g_338 : OJ) => (bl [obW G ad ha q g_338, slB G q])) (fun g_338 => (pBs (n := 2) [obW G ad ha q g_338, slB G q] [0, 1] [] rfl (by decide)).symm) (fun g_338 hf_338 => ?_))
                refine V.topN (b := clnF (oX q) i18) (rfl) ?_
                refine V.aload_n E dL_isWell_341 rfl rfl ?_
                refine V.iload E dL_isWell_342 rfl ?_
                refine V.iconst (v := nI (0)) E dL_isWell_344 (by decide) ?_
                refine V.callV (C := RX4) E (o_pixel G ad ha q g_338 i18 0 (hq) (hi_18b) (by decide)) (bl []) [.int (nI (clnF (oX q) i18))] 0 4 rfl rfl rfl gL_isWell_X4_pixel rfl ⟨rfl, hd_X4_pixel⟩ ⟨⟨Nat.le_of_ble_eq_true rfl, Nat.le_of_ble_eq_true rfl⟩, Nat.le_of_ble_eq_true rfl, Nat.le_of_ble_eq_true rfl⟩ rfl (Nat.le_of_ble_eq_true rfl) rfl dL_isWell_345 (pBs (n := 2) [obW G ad ha q g_338, slB G q] [0, 1] [] rfl (by decide)) (kc' := 0) (ks' := 0) rfl rfl (rxI (ws' := fun (g_345 : OJ) => (bl [obW G ad ha q g_345, slB G q])) (fun g_345 => (pBs (n := 2) [obW G ad ha q g_345, slB G q] [0, 1] [] rfl (by decide)).symm) (fun g_345 hf_345 => ?_))
                refine V.topN (b := scF (oX q) i18) (rfl) ?_
                refine V.icmp_ne (tgt := 355) E dL_isWell_348 (by decide) (fun q_348 => ?_) (fun q_348 => ?_)
                · exact absurd (congrArg nI (wl_clean q_330)) q_348
                · refine V.iconst (v := nI (1)) E dL_isWell_351 (by decide) ?_
                  refine V.goto (tgt := 356) E dL_isWell_352 (by decide) ?_
                  exact hJ_356 _
            refine V.iload E dL_isWell_302 rfl ?_
            refine V.bipush (v := nI (16)) E dL_isWell_304 (by decide) ?_
            refine V.icmp_ltN (tgt := 328) E (by omega) (by omega) dL_isWell_306 (by decide) (fun q_306 => ?_) (fun q_306 => ?_)
            · exact hJ_328 _
            · refine V.aload_n E dL_isWell_309 rfl rfl ?_
              refine V.iload E dL_isWell_310 rfl ?_
              refine V.bipush (v := nI (9)) E dL_isWell_312 (by decide) ?_
              refine V.callV (C := RX4) E (o_pixel G ad ha q k4 i18 9 (hq) (hi_18b) (by decide)) (bl []) [] 0 4 rfl rfl rfl gL_isWell_X4_pixel rfl ⟨rfl, hd_X4_pixel⟩ ⟨⟨Nat.le_of_ble_eq_true rfl, Nat.le_of_ble_eq_true rfl⟩, Nat.le_of_ble_eq_true rfl, Nat.le_of_ble_eq_true rfl⟩ rfl (Nat.le_of_ble_eq_true rfl) rfl dL_isWell_314 (pBs (n := 2) [obW G ad ha q k4, slB G q] [0, 1] [] rfl (by decide)) (kc' := 0) (ks' := 0) rfl rfl (rxI (ws' := fun (g_314 : OJ) => (bl [obW G ad ha q g_314, slB G q])) (fun g_314 => (pBs (n := 2) [obW G ad ha q g_314, slB G q] [0, 1] [] rfl (by decide)).symm) (fun g_314 hf_314 => ?_))
              refine V.topN (b := cmpF (oX q) i18) (rfl) ?_
              refine V.aload_n E dL_isWell_317 rfl rfl ?_
              refine V.iload E dL_isWell_318 rfl ?_
              refine V.bipush (v := nI (8)) E dL_isWell_320 (by decide) ?_
              refine V.callV (C := RX4) E (o_pixel G ad ha q g_314 i18 8 (hq) (hi_18b) (by decide)) (bl []) [.int (nI (cmpF (oX q) i18))] 0 4 rfl rfl rfl gL_isWell_X4_pixel rfl ⟨rfl, hd_X4_pixel⟩ ⟨⟨Nat.le_of_ble_eq_true rfl, Nat.le_of_ble_eq_true rfl⟩, Nat.le_of_ble_eq_true rfl, Nat.le_of_ble_eq_true rfl⟩ rfl (Nat.le_of_ble_eq_true rfl) rfl dL_isWell_322 (pBs (n := 2) [obW G ad ha q g_314, slB G q] [0, 1] [] rfl (by decide)) (kc' := 0) (ks' := 0) rfl rfl (rxI (ws' := fun (g_322 : OJ) => (bl [obW G ad ha q g_322, slB G q])) (fun g_322 => (pBs (n := 2) [obW G ad ha q g_322, slB G q] [0, 1] [] rfl (by decide)).symm) (fun g_322 hf_322 => ?_))
              refine V.topN (b := clnF (oX q) i18) (rfl) ?_
              refine V.icmp_ne (tgt := 355) E dL_isWell_325 (by decide) (fun q_325 => ?_) (fun q_325 => ?_)
              · exact absurd (congrArg nI (wl_body hq.x hi_18b (by omega))) q_325
              · exact hJ_328 _
          refine V.iload E dL_isWell_279 rfl ?_
          refine V.if_gtN (tgt := 302) E (by omega) dL_isWell_281 (by decide) (fun q_281 => ?_) (fun q_281 => ?_)
          · exact hJ_302 _
          · refine V.aload_n E dL_isWell_284 rfl rfl ?_
            refine V.iload E dL_isWell_285 rfl ?_
            refine V.bipush (v := nI (9)) E dL_isWell_287 (by decide) ?_
            refine V.callV (C := RX4) E (o_pixel G ad ha q k3 i18 9 (hq) (hi_18b) (by decide)) (bl []) [] 0 4 rfl rfl rfl gL_isWell_X4_pixel rfl ⟨rfl, hd_X4_pixel⟩ ⟨⟨Nat.le_of_ble_eq_true rfl, Nat.le_of_ble_eq_true rfl⟩, Nat.le_of_ble_eq_true rfl, Nat.le_of_ble_eq_true rfl⟩ rfl (Nat.le_of_ble_eq_true rfl) rfl dL_isWell_289 (pBs (n := 2) [obW G ad ha q k3, slB G q] [0, 1] [] rfl (by decide)) (kc' := 0) (ks' := 0) rfl rfl (rxI (ws' := fun (g_289 : OJ) => (bl [obW G ad ha q g_289, slB G q])) (fun g_289 => (pBs (n := 2) [obW G ad ha q g_289, slB G q] [0, 1] [] rfl (by decide)).symm) (fun g_289 hf_289 => ?_))
            refine V.topN (b := cmpF (oX q) i18) (rfl) ?_
            refine V.aload_n E dL_isWell_292 rfl rfl ?_
            refine V.iload E dL_isWell_293 rfl ?_
            refine V.iconst (v := nI (1)) E dL_isWell_295 (by decide) ?_
            refine V.callV (C := RX4) E (o_pixel G ad ha q g_289 i18 1 (hq) (hi_18b) (by decide)) (bl []) [.int (nI (cmpF (oX q) i18))] 0 4 rfl rfl rfl gL_isWell_X4_pixel rfl ⟨rfl, hd_X4_pixel⟩ ⟨⟨Nat.le_of_ble_eq_true rfl, Nat.le_of_ble_eq_true rfl⟩, Nat.le_of_ble_eq_true rfl, Nat.le_of_ble_eq_true rfl⟩ rfl (Nat.le_of_ble_eq_true rfl) rfl dL_isWell_296 (pBs (n := 2) [obW G ad ha q g_289, slB G q] [0, 1] [] rfl (by decide)) (kc' := 0) (ks' := 0) rfl rfl (rxI (ws' := fun (g_296 : OJ) => (bl [obW G ad ha q g_296, slB G q])) (fun g_296 => (pBs (n := 2) [obW G ad ha q g_296, slB G q] [0, 1] [] rfl (by decide)).symm) (fun g_296 hf_296 => ?_))
            refine V.topN (b := scB (oX q) i18) (rfl) ?_
            refine V.icmp_ne (tgt := 355) E dL_isWell_299 (by decide) (fun q_299 => ?_) (fun q_299 => ?_)
            · exact absurd (congrArg nI (wl_clear hq.x hi_18b q_281)) q_299
            · exact hJ_302 _
        refine V.iload E dL_isWell_229 rfl ?_
        refine V.aload_n E dL_isWell_231 rfl rfl ?_
        refine V.iconst (v := nI (0)) E dL_isWell_232 (by decide) ?_
        refine V.callV (C := RX4) E (o_count G ad ha q k1 0 (hq) (by decide)) (bl []) [.int (nI (dist (scF (oX q) i18) (scC (oX q))))] 0 4 rfl rfl rfl gL_isWell_X4_count rfl ⟨rfl, hd_X4_count⟩ ⟨⟨Nat.le_of_ble_eq_true rfl, Nat.le_of_ble_eq_true rfl⟩, Nat.le_of_ble_eq_true rfl, Nat.le_of_ble_eq_true rfl⟩ rfl (Nat.le_of_ble_eq_true rfl) rfl dL_isWell_233 (pBs (n := 2) [obW G ad ha q k1, slB G q] [0, 1] [] rfl (by decide)) (kc' := 0) (ks' := 0) rfl rfl (rxI (ws' := fun (g_233 : OJ) => (bl [obW G ad ha q g_233, slB G q])) (fun g_233 => (pBs (n := 2) [obW G ad ha q g_233, slB G q] [0, 1] [] rfl (by decide)).symm) (fun g_233 hf_233 => ?_))
        refine V.topN (b := scS (oX q) 0) (rfl) ?_
        refine V.icmp_gtN (tgt := 247) E (by omega) (by omega) dL_isWell_236 (by decide) (fun q_236 => ?_) (fun q_236 => ?_)
        · refine V.iload E dL_isWell_247 rfl ?_
          refine V.aload_n E dL_isWell_249 rfl rfl ?_
          refine V.iconst (v := nI (1)) E dL_isWell_250 (by decide) ?_
          refine V.callV (C := RX4) E (o_count G ad ha q g_233 1 (hq) (by decide)) (bl []) [.int (nI (dist (scF (oX q) i18) (scC (oX q))))] 0 4 rfl rfl rfl gL_isWell_X4_count rfl ⟨rfl, hd_X4_count⟩ ⟨⟨Nat.le_of_ble_eq_true rfl, Nat.le_of_ble_eq_true rfl⟩, Nat.le_of_ble_eq_true rfl, Nat.le_of_ble_eq_true rfl⟩ rfl (Nat.le_of_ble_eq_true rfl) rfl dL_isWell_251 (pBs (n := 2) [obW G ad ha q g_233, slB G q] [0, 1] [] rfl (by decide)) (kc' := 0) (ks' := 0) rfl rfl (rxI (ws' := fun (g_251 : OJ) => (bl [obW G ad ha q g_251, slB G q])) (fun g_251 => (pBs (n := 2) [obW G ad ha q g_251, slB G q] [0, 1] [] rfl (by decide)).symm) (fun g_251 hf_251 => ?_))
          refine V.topN (b := scS (oX q) 1) (rfl) ?_
          refine V.icmp_ltN (tgt := 267) E (by omega) (by omega) dL_isWell_254 (by decide) (fun q_254 => ?_) (fun q_254 => ?_)
          · refine V.iload E dL_isWell_267 rfl ?_
            refine V.if_ltN (tgt := 355) E (by omega) dL_isWell_269 (by decide) ?_
            refine V.iload E dL_isWell_272 rfl ?_
            refine V.bipush (v := nI (16)) E dL_isWell_274 (by decide) ?_
            refine V.icmp_geN (tgt := 355) E (by omega) (by omega) dL_isWell_276 (by decide) (fun q_276 => ?_) (fun q_276 => ?_)
            · exact absurd (wl_raw (x := oX q) (p := i18) (by omega) (by omega)) (by omega)
            · exact hJ_279 _
          · refine V.iload E dL_isWell_257 rfl ?_
            refine V.bipush (v := nI (16)) E dL_isWell_259 (by decide) ?_
            refine V.icmp_ne (tgt := 355) E dL_isWell_261 (by decide) (fun q_261 => ?_) (fun q_261 => ?_)
            · exact absurd (congrArg nI (wl_raw16 (by omega) q_254)) q_261
            · refine V.goto (tgt := 279) E dL_isWell_264 (by decide) ?_
              exact hJ_279 _
        · refine V.iload E dL_isWell_239 rfl ?_
          refine V.if_neN (tgt := 355) E (by omega) dL_isWell_241 (by decide) (fun q_241 => ?_) (fun q_241 => ?_)
          · exact absurd (wl_raw0 q_236) q_241
          · refine V.goto (tgt := 279) E dL_isWell_244 (by decide) ?_
            exact hJ_279 _
      refine V.iload E dL_isWell_109 rfl ?_
      refine V.if_eqN (tgt := 221) E (by omega) dL_isWell_111 (by decide) (fun q_111 => absurd q_111 (by decide)) (fun q_111 => ?_)
      refine V.iload E dL_isWell_114 rfl ?_
      refine V.iload E dL_isWell_116 rfl ?_
      refine V.icmp_eqN (tgt := 176) E (by omega) (by omega) dL_isWell_118 (by decide) (fun q_118 => ?_) (fun q_118 => ?_)
      · refine V.iload E dL_isWell_176 rfl ?_
        refine V.if_ltN (tgt := 221) E (by omega) dL_isWell_178 (by decide) ?_
        refine V.iload E dL_isWell_181 rfl ?_
        refine V.aload_n E dL_isWell_183 rfl rfl ?_
        refine V.iload E dL_isWell_184 rfl ?_
        refine V.bipush (v := nI (6)) E dL_isWell_186 (by decide) ?_
        refine V.callV (C := RX4) E (o_pixel G ad ha q g_82 i18 6 (hq) (hi_18b) (by decide)) (bl []) [.int (nI (tknF (oX q) i18))] 0 4 rfl rfl rfl gL_isWell_X4_pixel rfl ⟨rfl, hd_X4_pixel⟩ ⟨⟨Nat.le_of_ble_eq_true rfl, Nat.le_of_ble_eq_true rfl⟩, Nat.le_of_ble_eq_true rfl, Nat.le_of_ble_eq_true rfl⟩ rfl (Nat.le_of_ble_eq_true rfl) rfl dL_isWell_188 (pBs (n := 2) [obW G ad ha q g_82, slB G q] [0, 1] [] rfl (by decide)) (kc' := 0) (ks' := 0) rfl rfl (rxI (ws' := fun (g_188 : OJ) => (bl [obW G ad ha q g_188, slB G q])) (fun g_188 => (pBs (n := 2) [obW G ad ha q g_188, slB G q] [0, 1] [] rfl (by decide)).symm) (fun g_188 hf_188 => ?_))
        refine V.topN (b := splF (oX q) i18) (rfl) ?_
        refine V.icmp_gtN (tgt := 221) E (by omega) (by omega) dL_isWell_191 (by decide) (fun q_191 => ?_) (fun q_191 => ?_)
        · exfalso; omega
        · refine V.aload_n E dL_isWell_194 rfl rfl ?_
          refine V.iload E dL_isWell_195 rfl ?_
          refine V.bipush (v := nI (8)) E dL_isWell_197 (by decide) ?_
          refine V.idivN E (by omega) (by omega) (by omega) dL_isWell_199 ?_
          refine V.iload E dL_isWell_200 rfl ?_
          refine V.callV (C := RX4) E (o_row G ad ha q g_188 (i18 / 8) (kndF (oX q) i18) (hq) (by omega) (by omega)) (bl []) [] 0 4 rfl rfl rfl gL_isWell_X4_row rfl ⟨rfl, hd_X4_row⟩ ⟨⟨Nat.le_of_ble_eq_true rfl, Nat.le_of_ble_eq_true rfl⟩, Nat.le_of_ble_eq_true rfl, Nat.le_of_ble_eq_true rfl⟩ rfl (Nat.le_of_ble_eq_true rfl) rfl dL_isWell_202 (pBs (n := 2) [obW G ad ha q g_188, slB G q] [0, 1] [] rfl (by decide)) (kc' := 0) (ks' := 0) rfl rfl (rxI (ws' := fun (g_202 : OJ) => (bl [obW G ad ha q g_202, slB G q])) (fun g_202 => (pBs (n := 2) [obW G ad ha q g_202, slB G q] [0, 1] [] rfl (by decide)).symm) (fun g_202 hf_202 => ?_))
          refine V.iload E dL_isWell_205 rfl ?_
          refine V.bipush (v := nI (8)) E dL_isWell_207 (by decide) ?_
          refine V.iremN E (by omega) (by omega) (by omega) dL_isWell_209 ?_
          refine V.ishrN E (Nat.lt_trans (mskN_lt _ 8) (by decide)) (by omega) dL_isWell_210 ?_
          refine V.iconst (v := nI (1)) E dL_isWell_211 (by decide) ?_
          refine V.iand E dL_isWell_212 ?_
          refine V.top (y := nI (1)) (row_1 (oX q) i18) ?_
          refine V.iconst (v := nI (1)) E dL_isWell_213 (by decide) ?_
          refine V.icmp_neN (tgt := 221) E (by omega) (by omega) dL_isWell_214 (by decide) (fun q_214 => absurd q_214 (by decide)) (fun q_214 => ?_)
          refine V.iconst (v := nI (1)) E dL_isWell_217 (by decide) ?_
          refine V.goto (tgt := 222) E dL_isWell_218 (by decide) ?_
          exact hJ_222 _
      · have hw := wl_by hi_18b q_118
        refine V.iload E dL_isWell_121 rfl ?_
        refine V.bipush (v := nI (16)) E dL_isWell_123 (by decide) ?_
        refine V.icmp_neN (tgt := 221) E (by omega) (by omega) dL_isWell_125 (by decide) (fun q_125 => ?_) (fun q_125 => ?_)
        · exfalso; omega
        · refine V.iload E dL_isWell_128 rfl ?_
          refine V.bipush (v := nI (16)) E dL_isWell_130 (by decide) ?_
          refine V.icmp_geN (tgt := 221) E (by omega) (by omega) dL_isWell_132 (by decide) (fun q_132 => ?_) (fun q_132 => ?_)
          · exfalso; omega
          · refine V.aload_n E dL_isWell_135 rfl rfl ?_
            refine V.iconst (v := nI (5)) E dL_isWell_136 (by decide) ?_
            refine V.callV (C := RX4) E (o_count G ad ha q g_82 5 (hq) (by decide)) (bl []) [] 0 4 rfl rfl rfl gL_isWell_X4_count rfl ⟨rfl, hd_X4_count⟩ ⟨⟨Nat.le_of_ble_eq_true rfl, Nat.le_of_ble_eq_true rfl⟩, Nat.le_of_ble_eq_true rfl, Nat.le_of_ble_eq_true rfl⟩ rfl (Nat.le_of_ble_eq_true rfl) rfl dL_isWell_137 (pBs (n := 2) [obW G ad ha q g_82, slB G q] [0, 1] [] rfl (by decide)) (kc' := 0) (ks' := 0) rfl rfl (rxI (ws' := fun (g_137 : OJ) => (bl [obW G ad ha q g_137, slB G q])) (fun g_137 => (pBs (n := 2) [obW G ad ha q g_137, slB G q] [0, 1] [] rfl (by decide)).symm) (fun g_137 hf_137 => ?_))
            refine V.topN (b := scS (oX q) 5) (rfl) ?_
            refine V.iconst (v := nI (1)) E dL_isWell_140 (by decide) ?_
            refine V.icmp_ne (tgt := 221) E dL_isWell_141 (by decide) (fun q_141 => ?_) (fun q_141 => ?_)
            · exact absurd (congrArg nI hw.2.2.1) q_141
            · refine V.iload E dL_isWell_144 rfl ?_
              refine V.bipush (v := nI (7)) E dL_isWell_146 (by decide) ?_
              refine V.icmp_leN (tgt := 221) E (by omega) (by omega) dL_isWell_148 (by decide) (fun q_148 => ?_) (fun q_148 => ?_)
              · exfalso; omega
              · refine V.iload E dL_isWell_151 rfl ?_
                refine V.bipush (v := nI (40)) E dL_isWell_153 (by decide) ?_
                refine V.icmp_geN (tgt := 221) E (by omega) (by omega) dL_isWell_155 (by decide) (fun q_155 => ?_) (fun q_155 => ?_)
                · exfalso; omega
                · refine V.iload E dL_isWell_158 rfl ?_
                  refine V.bipush (v := nI (8)) E dL_isWell_160 (by decide) ?_
                  refine V.iremN E (by omega) (by omega) (by omega) dL_isWell_162 ?_
                  refine V.if_leN (tgt := 221) E (by omega) dL_isWell_163 (by decide) (fun q_163 => ?_) (fun q_163 => ?_)
                  · exfalso; omega
                  · refine V.iload E dL_isWell_166 rfl ?_
                    refine V.bipush (v := nI (8)) E dL_isWell_168 (by decide) ?_
                    refine V.iremN E (by omega) (by omega) (by omega) dL_isWell_170 ?_
                    refine V.bipush (v := nI (7)) E dL_isWell_171 (by decide) ?_
                    refine V.icmp_geN (tgt := 221) E (by omega) (by omega) dL_isWell_173 (by decide) (fun q_173 => ?_) (fun q_173 => ?_)
                    · exfalso; omega
                    · refine V.iload E dL_isWell_176 rfl ?_
                      refine V.if_ltN (tgt := 221) E (by omega) dL_isWell_178 (by decide) ?_
                      refine V.iload E dL_isWell_181 rfl ?_
                      refine V.aload_n E dL_isWell_183 rfl rfl ?_
                      refine V.iload E dL_isWell_184 rfl ?_
                      refine V.bipush (v := nI (6)) E dL_isWell_186 (by decide) ?_
                      refine V.callV (C := RX4) E (o_pixel G ad ha q g_137 i18 6 (hq) (hi_18b) (by decide)) (bl []) [.int (nI (tknF (oX q) i18))] 0 4 rfl rfl rfl gL_isWell_X4_pixel rfl ⟨rfl, hd_X4_pixel⟩ ⟨⟨Nat.le_of_ble_eq_true rfl, Nat.le_of_ble_eq_true rfl⟩, Nat.le_of_ble_eq_true rfl, Nat.le_of_ble_eq_true rfl⟩ rfl (Nat.le_of_ble_eq_true rfl) rfl dL_isWell_188 (pBs (n := 2) [obW G ad ha q g_137, slB G q] [0, 1] [] rfl (by decide)) (kc' := 0) (ks' := 0) rfl rfl (rxI (ws' := fun (g_188 : OJ) => (bl [obW G ad ha q g_188, slB G q])) (fun g_188 => (pBs (n := 2) [obW G ad ha q g_188, slB G q] [0, 1] [] rfl (by decide)).symm) (fun g_188 hf_188 => ?_))
                      refine V.topN (b := splF (oX q) i18) (rfl) ?_
                      refine V.icmp_gtN (tgt := 221) E (by omega) (by omega) dL_isWell_191 (by decide) (fun q_191 => ?_) (fun q_191 => ?_)
                      · exfalso; omega
                      · refine V.aload_n E dL_isWell_194 rfl rfl ?_
                        refine V.iload E dL_isWell_195 rfl ?_
                        refine V.bipush (v := nI (8)) E dL_isWell_197 (by decide) ?_
                        refine V.idivN E (by omega) (by omega) (by omega) dL_isWell_199 ?_
                        refine V.iload E dL_isWell_200 rfl ?_
                        refine V.callV (C := RX4) E (o_row G ad ha q g_188 (i18 / 8) (kndF (oX q) i18) (hq) (by omega) (by omega)) (bl []) [] 0 4 rfl rfl rfl gL_isWell_X4_row rfl ⟨rfl, hd_X4_row⟩ ⟨⟨Nat.le_of_ble_eq_true rfl, Nat.le_of_ble_eq_true rfl⟩, Nat.le_of_ble_eq_true rfl, Nat.le_of_ble_eq_true rfl⟩ rfl (Nat.le_of_ble_eq_true rfl) rfl dL_isWell_202 (pBs (n := 2) [obW G ad ha q g_188, slB G q] [0, 1] [] rfl (by decide)) (kc' := 0) (ks' := 0) rfl rfl (rxI (ws' := fun (g_202 : OJ) => (bl [obW G ad ha q g_202, slB G q])) (fun g_202 => (pBs (n := 2) [obW G ad ha q g_202, slB G q] [0, 1] [] rfl (by decide)).symm) (fun g_202 hf_202 => ?_))
                        refine V.iload E dL_isWell_205 rfl ?_
                        refine V.bipush (v := nI (8)) E dL_isWell_207 (by decide) ?_
                        refine V.iremN E (by omega) (by omega) (by omega) dL_isWell_209 ?_
                        refine V.ishrN E (Nat.lt_trans (mskN_lt _ 8) (by decide)) (by omega) dL_isWell_210 ?_
                        refine V.iconst (v := nI (1)) E dL_isWell_211 (by decide) ?_
                        refine V.iand E dL_isWell_212 ?_
                        refine V.top (y := nI (1)) (row_1 (oX q) i18) ?_
                        refine V.iconst (v := nI (1)) E dL_isWell_213 (by decide) ?_
                        refine V.icmp_neN (tgt := 221) E (by omega) (by omega) dL_isWell_214 (by decide) (fun q_214 => absurd q_214 (by decide)) (fun q_214 => ?_)
                        refine V.iconst (v := nI (1)) E dL_isWell_217 (by decide) ?_
                        refine V.goto (tgt := 222) E dL_isWell_218 (by decide) ?_
                        exact hJ_222 _
    refine V.iload E dL_isWell_92 rfl ?_
    refine V.iload E dL_isWell_94 rfl ?_
    refine V.iload E dL_isWell_96 rfl ?_
    refine V.icmp_neN (tgt := 105) E (by omega) (by omega) dL_isWell_98 (by decide) (fun q_98 => ?_) (fun q_98 => ?_)
    · refine V.iconst (v := nI (1)) E dL_isWell_105 (by decide) ?_
      refine V.iaddN E  dL_isWell_106 ?_
      refine V.topN (b := sumN (i18 + 1) (fun j => bN (!decide (opqF (oX q) j = rawF (oX q) j)))) (clo_f q_98) ?_
      exact hJ_107 
    · refine V.iconst (v := nI (0)) E dL_isWell_101 (by decide) ?_
      refine V.goto (tgt := 106) E dL_isWell_102 (by decide) ?_
      refine V.iaddN E  dL_isWell_106 ?_
      refine V.topN (b := sumN (i18 + 1) (fun j => bN (!decide (opqF (oX q) j = rawF (oX q) j)))) (clo_t q_98) ?_
      exact hJ_107 
