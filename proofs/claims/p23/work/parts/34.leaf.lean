/-! the law's leaves -/
def upM (v : Int32) : Nat := v.toBitVec.toNat % 2 ^ 31
def upv (v : Int32) (n : Nat) : Nat := upM v % n
theorem ni_bv (n : Nat) : (nI n).toBitVec = BitVec.ofNat 32 n := by unfold nI; simp
theorem up_e (v : Int32) : v &&& nI 2147483647 = nI (upM v) := by
  apply Int32.toBitVec_inj.mp
  rw [Int32.toBitVec_and, ni_bv, ni_bv]
  apply BitVec.eq_of_toNat_eq
  rw [BitVec.toNat_and, BitVec.toNat_ofNat, BitVec.toNat_ofNat]
  have e : 2147483647 % 2 ^ 32 = 2 ^ 31 - 1 := rfl
  rw [e, Nat.and_two_pow_sub_one_eq_mod]
  unfold upM
  omega
theorem upM_lt (v : Int32) : upM v < 2 ^ 31 := Nat.mod_lt _ (by decide)
theorem upv_lt (v : Int32) {n : Nat} (h : 0 < n) : upv v n < n := Nat.mod_lt _ h
theorem i2l_n : ∀ n, n < 128 → (nI n).toInt64 = lN n := by decide
theorem dg_lo {d : Nat} (h : d < 10) : dg d = 48 + d := if_pos h
theorem dg_hi {d : Nat} (h : 10 ≤ d) : dg d = 87 + d := if_neg (by omega)
abbrev rm_c_L_up : Room := { frames := 0, cells := 0, slots := 0, locals := 0 }
theorem hd_L_up : yL_up.cls ≠ "java/lang/invoke/MethodHandle" ∧ yL_up.cls ≠ "java/lang/invoke/VarHandle" ∧ (parseMethodDescriptor yL_up.desc).map (fun d => d.parameters.length) = some 2 := by decide +kernel
set_option maxRecDepth 100000 in
set_option maxHeartbeats 8000000 in
theorem c_L_up (G : VC) (v_ : Int32) (n_ : Nat) (hn : 0 < n_) (hn2 : n_ < 2 ^ 31) : Ctr yL_up wsL_up rm_c_L_up G [.int (v_), .int (nI (n_))] (bl []) (fun v9_ u9_ => u9_ = (bl []) ∧ v9_ = some (.int (nI (upv v_ n_)))) := by
  refine Ctr.int (cc := cL_up) (maxL := 2) (ret := (some .int)) (lv0 := [some (.int (v_)), some (.int (nI (n_)))]) (by decide) rfl rfl rfl (Nat.le_of_ble_eq_true rfl) rfl (fun A X E hend => ?_)
  refine V.iload_n E dL_up_0 rfl rfl ?_
  refine V.ldc (v := nI 2147483647) E (by decide +kernel) dL_up_1 ?_
  refine V.iand E dL_up_3 ?_
  refine V.top (y := nI (upM v_)) (up_e v_) ?_
  refine V.iload_n E dL_up_4 rfl rfl ?_
  refine V.iremN E (upM_lt v_) hn hn2 dL_up_5 ?_
  refine V.topN (b := upv v_ n_) (rfl) ?_
  exact hend _ _ _ _ dL_up_6 (nrI _) ⟨rfl, rfl⟩
abbrev rm_c_L_there : Room := { frames := 0, cells := 0, slots := 0, locals := 0 }
theorem hd_L_there : yL_there.cls ≠ "java/lang/invoke/MethodHandle" ∧ yL_there.cls ≠ "java/lang/invoke/VarHandle" ∧ (parseMethodDescriptor yL_there.desc).map (fun d => d.parameters.length) = some 1 := by decide +kernel
set_option maxRecDepth 100000 in
set_option maxHeartbeats 8000000 in
theorem c_L_there (G : VC) (p_ : Nat) (hp : p_ < 48) : Ctr yL_there wsL_there rm_c_L_there G [.int (nI (p_))] (bl []) (fun v9_ u9_ => u9_ = (bl []) ∧ v9_ = some (.int (nI (mP p_)))) := by
  refine Ctr.int (cc := cL_there) (maxL := 1) (ret := (some .int)) (lv0 := [some (.int (nI (p_)))]) (by decide) rfl rfl rfl (Nat.le_of_ble_eq_true rfl) rfl (fun A X E hend => ?_)
  refine V.iload_n E dL_there_0 rfl rfl ?_
  refine V.iload_n E dL_there_1 rfl rfl ?_
  refine V.bipush (v := nI (8)) E dL_there_2 (by decide) ?_
  refine V.iremN E (by omega) (by omega) (by omega) dL_there_4 ?_
  refine V.isubN E (by omega) dL_there_5 ?_
  refine V.bipush (v := nI (7)) E dL_there_6 (by decide) ?_
  refine V.iaddN E  dL_there_8 ?_
  refine V.iload_n E dL_there_9 rfl rfl ?_
  refine V.bipush (v := nI (8)) E dL_there_10 (by decide) ?_
  refine V.iremN E (by omega) (by omega) (by omega) dL_there_12 ?_
  refine V.isubN E (by omega) dL_there_13 ?_
  refine V.topN (b := mP p_) (by unfold mP; omega) ?_
  exact hend _ _ _ _ dL_there_14 (nrI _) ⟨rfl, rfl⟩
abbrev rm_o_digit : Room := { frames := 2, cells := 0, slots := 0, locals := 49 }
theorem hd_L_digit : yL_digit.cls ≠ "java/lang/invoke/MethodHandle" ∧ yL_digit.cls ≠ "java/lang/invoke/VarHandle" ∧ (parseMethodDescriptor yL_digit.desc).map (fun d => d.parameters.length) = some 2 := by decide +kernel
set_option maxRecDepth 100000 in
set_option maxHeartbeats 8000000 in
theorem o_digit (G : VC) (ad : AD) (ha : AD) (q : OQ) (j : OJ) (v_ : Nat) (hq : OBI q) (hl : oL q < 48) (hv_ : v_ < 16) : Ctr yL_digit wsL_digit rm_o_digit G [.ref (ad 0 0), .int (nI (v_))] (bl [obW G ad ha q j, slB G q]) (fun v9_ u9_ => ∃ zz : OJ, u9_ = (bl [obW G ad ha (qPut q (dg v_)) zz, slB G (qPut q (dg v_))]) ∧ v9_ = some (.int (nI (1))) ∧ (True)) := by
  refine Ctr.int (cc := cL_digit) (maxL := 2) (ret := (some .boolean)) (lv0 := [some (.ref (ad 0 0)), some (.int (nI (v_)))]) (by decide) rfl rfl rfl (Nat.le_of_ble_eq_true rfl) rfl (fun A X E hend => ?_)
  refine V.aload_n E dL_digit_0 rfl rfl ?_
  refine V.iload_n E dL_digit_1 rfl rfl ?_
  refine V.bipush (v := nI (10)) E dL_digit_2 (by decide) ?_
  refine V.icmp_geN (tgt := 15) E (by omega) (by omega) dL_digit_4 (by decide) (fun q_4 => ?_) (fun q_4 => ?_)
  · refine V.bipush (v := nI (97)) E dL_digit_15 (by decide) ?_
    refine V.iload_n E dL_digit_17 rfl rfl ?_
    refine V.iaddN E  dL_digit_18 ?_
    refine V.bipush (v := nI (10)) E dL_digit_19 (by decide) ?_
    refine V.isubN E (by omega) dL_digit_21 ?_
    refine V.i2l E dL_digit_22 rfl ?_
    refine V.topl (y := lN (dg v_)) (by first | (rw [dg_lo (by omega)]; exact i2l_n _ (by omega)) | (rw [dg_hi (by omega), show 97 + v_ - 10 = 87 + v_ by omega]; exact i2l_n _ (by omega))) ?_
    refine V.callV (C := RX4) E (o_put G ad ha q j (dg v_) (hq) ((dg_in v_ hv_).1) ((dg_in v_ hv_).2.1) (hl)) (bl []) [] 0 4 rfl rfl rfl gL_digit_X4_put rfl ⟨rfl, hd_X4_put⟩ ⟨⟨Nat.le_of_ble_eq_true rfl, Nat.le_of_ble_eq_true rfl⟩, Nat.le_of_ble_eq_true rfl, Nat.le_of_ble_eq_true rfl⟩ rfl (Nat.le_of_ble_eq_true rfl) rfl dL_digit_23 (pBs (n := 2) [obW G ad ha q j, slB G q] [0, 1] [] rfl (by decide)) (kc' := 0) (ks' := 0) rfl rfl (rxI (ws' := fun (g_23 : OJ) => (bl [obW G ad ha (qPut q (dg v_)) g_23, slB G (qPut q (dg v_))])) (fun g_23 => (pBs (n := 2) [obW G ad ha (qPut q (dg v_)) g_23, slB G (qPut q (dg v_))] [0, 1] [] rfl (by decide)).symm) (fun g_23 hf_23 => ?_))
    refine V.if_leN (tgt := 33) E (by omega) dL_digit_26 (by decide) (fun q_26 => ?_) (fun q_26 => ?_)
    · exact absurd q_26 (by omega)
    · refine V.iconst (v := nI (1)) E dL_digit_29 (by decide) ?_
      refine V.goto (tgt := 34) E dL_digit_30 (by decide) ?_
      exact hend _ _ _ _ dL_digit_34 (nrB true) ⟨g_23, rfl, rfl, trivial⟩
  · refine V.bipush (v := nI (48)) E dL_digit_7 (by decide) ?_
    refine V.iload_n E dL_digit_9 rfl rfl ?_
    refine V.iaddN E  dL_digit_10 ?_
    refine V.i2l E dL_digit_11 rfl ?_
    refine V.goto (tgt := 23) E dL_digit_12 (by decide) ?_
    refine V.topl (y := lN (dg v_)) (by first | (rw [dg_lo (by omega)]; exact i2l_n _ (by omega)) | (rw [dg_hi (by omega), show 97 + v_ - 10 = 87 + v_ by omega]; exact i2l_n _ (by omega))) ?_
    refine V.callV (C := RX4) E (o_put G ad ha q j (dg v_) (hq) ((dg_in v_ hv_).1) ((dg_in v_ hv_).2.1) (hl)) (bl []) [] 0 4 rfl rfl rfl gL_digit_X4_put rfl ⟨rfl, hd_X4_put⟩ ⟨⟨Nat.le_of_ble_eq_true rfl, Nat.le_of_ble_eq_true rfl⟩, Nat.le_of_ble_eq_true rfl, Nat.le_of_ble_eq_true rfl⟩ rfl (Nat.le_of_ble_eq_true rfl) rfl dL_digit_23 (pBs (n := 2) [obW G ad ha q j, slB G q] [0, 1] [] rfl (by decide)) (kc' := 0) (ks' := 0) rfl rfl (rxI (ws' := fun (g_23 : OJ) => (bl [obW G ad ha (qPut q (dg v_)) g_23, slB G (qPut q (dg v_))])) (fun g_23 => (pBs (n := 2) [obW G ad ha (qPut q (dg v_)) g_23, slB G (qPut q (dg v_))] [0, 1] [] rfl (by decide)).symm) (fun g_23 hf_23 => ?_))
    refine V.if_leN (tgt := 33) E (by omega) dL_digit_26 (by decide) (fun q_26 => ?_) (fun q_26 => ?_)
    · exact absurd q_26 (by omega)
    · refine V.iconst (v := nI (1)) E dL_digit_29 (by decide) ?_
      refine V.goto (tgt := 34) E dL_digit_30 (by decide) ?_
      exact hend _ _ _ _ dL_digit_34 (nrB true) ⟨g_23, rfl, rfl, trivial⟩
