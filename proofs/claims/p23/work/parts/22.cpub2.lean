/-! the class: marks, rows, slots -/
theorem SInv.mk {x : SC} (h : SInv x) {p v : Nat} (hp : p < 48) (hv1 : v ≤ 1) : SInv (scS x, scF x, scB x, upN (scG x) p v, scC x) := by
  refine ⟨h.1, h.2.1, h.2.2.1, h.2.2.2.1, fun j hj => ?_, h.2.2.2.2.2⟩
  show upN (scG x) p v j ≤ 1
  unfold upN
  split
  · exact hv1
  · exact h.2.2.2.2.1 j hj
theorem fq_u0 {s0 s1 : Option Nat} {v : Nat} : va_up (fq s0 s1) 0 (some v) = fq (some v) s1 := by
  funext j
  unfold va_up fq
  by_cases h : j = 0
  · rw [if_pos h, if_pos h]
  · rw [if_neg h, if_neg h, if_neg h]
theorem fq_u1 {s0 s1 : Option Nat} {v : Nat} : va_up (fq s0 s1) 1 (some v) = fq s0 (some v) := by
  funext j
  unfold va_up fq
  by_cases h : j = 1
  · subst h; rfl
  · rw [if_neg h]
    by_cases h0 : j = 0
    · rw [if_pos h0, if_pos h0]
    · rw [if_neg h0, if_neg h0, if_neg h, if_neg h]
abbrev rm_c_X4_mark_bad : Room := { frames := 1, cells := 0, slots := 0, locals := 20 }
theorem hd_X4_mark : yX4_mark.cls ≠ "java/lang/invoke/MethodHandle" ∧ yX4_mark.cls ≠ "java/lang/invoke/VarHandle" ∧ (parseMethodDescriptor yX4_mark.desc).map (fun d => d.parameters.length) = some 2 := by decide +kernel
set_option maxRecDepth 100000 in
set_option maxHeartbeats 8000000 in
theorem c_X4_mark_bad (G : VC) (ad : AD) (s0 : Option Nat) (s1 : Option Nat) (x : SC) (p_ : Int32) (b_ : Nat) (hb : okI 48 p_ = false) : Ctr yX4_mark wsX4_mark rm_c_X4_mark_bad G [.ref (ad 0 0), .int (p_), .int (nI (b_))] (bl [gsW G ad s0 s1, scW G (ad 1) x]) (fun v9_ u9_ => u9_ = (bl [gsW G ad s0 s1, scW G (ad 1) x]) ∧ v9_ = some (.int ((-1 : Int32)))) := by
  refine Ctr.int (cc := cX4_mark) (maxL := 3) (ret := (some .int)) (lv0 := [some (.ref (ad 0 0)), some (.int (p_)), some (.int (nI (b_)))]) (by decide) rfl rfl rfl (Nat.le_of_ble_eq_true rfl) rfl (fun A X E hend => ?_)
  refine V.iload_n E dX4_mark_0 rfl rfl ?_
  refine V.callS E (c_X4_isPixel G p_ ) (bl [gsW G ad s0 s1, scW G (ad 1) x]) [] gX4_mark_X4_isPixel rfl hd_X4_isPixel ⟨⟨Nat.le_of_ble_eq_true rfl, Nat.le_of_ble_eq_true rfl⟩, Nat.le_of_ble_eq_true rfl, Nat.le_of_ble_eq_true rfl⟩ rfl (Nat.le_of_ble_eq_true rfl) rfl dX4_mark_1 (List.Perm.refl _) (kc' := 0) (ks' := 0) rfl rfl (rwI (ws' := (bl [gsW G ad s0 s1, scW G (ad 1) x])) (List.Perm.refl _) ?_)
  refine V.if_neB (tgt := 9) E dX4_mark_4 (by decide) (fun q_4 => ?_) (fun q_4 => ?_)
  · exact absurd (hb.symm.trans q_4) (by decide)
  · refine V.iconst (v := (-1 : Int32)) E dX4_mark_7 (by decide) ?_
    exact hend _ _ _ _ dX4_mark_8 (nrI _) ⟨rfl, rfl⟩
abbrev rm_c_X4_mark_same_t : Room := { frames := 1, cells := 0, slots := 0, locals := 20 }
set_option maxRecDepth 100000 in
set_option maxHeartbeats 8000000 in
theorem c_X4_mark_same_t (G : VC) (ad : AD) (s0 : Option Nat) (s1 : Option Nat) (x : SC) (p_ : Nat) (hx : SInv x) (hp : p_ < 48) (hg : scG x p_ = 1) : Ctr yX4_mark wsX4_mark rm_c_X4_mark_same_t G [.ref (ad 0 0), .int (nI (p_)), .int (nI (bN true))] (bl [gsW G ad s0 s1, scW G (ad 1) x]) (fun v9_ u9_ => u9_ = (bl [gsW G ad s0 s1, scW G (ad 1) x]) ∧ v9_ = some (.int ((-5 : Int32)))) := by
  refine Ctr.int (cc := cX4_mark) (maxL := 3) (ret := (some .int)) (lv0 := [some (.ref (ad 0 0)), some (.int (nI (p_))), some (.int (nI (bN true)))]) (by decide) rfl rfl rfl (Nat.le_of_ble_eq_true rfl) rfl (fun A X E hend => ?_)
  refine V.iload_n E dX4_mark_0 rfl rfl ?_
  refine V.callS E (c_X4_isPixel G (nI (p_)) ) (bl [gsW G ad s0 s1, scW G (ad 1) x]) [] gX4_mark_X4_isPixel rfl hd_X4_isPixel ⟨⟨Nat.le_of_ble_eq_true rfl, Nat.le_of_ble_eq_true rfl⟩, Nat.le_of_ble_eq_true rfl, Nat.le_of_ble_eq_true rfl⟩ rfl (Nat.le_of_ble_eq_true rfl) rfl dX4_mark_1 (List.Perm.refl _) (kc' := 0) (ks' := 0) rfl rfl (rwI (ws' := (bl [gsW G ad s0 s1, scW G (ad 1) x])) (List.Perm.refl _) ?_)
  refine V.if_neB (tgt := 9) E dX4_mark_4 (by decide) (fun q_4 => ?_) (fun q_4 => ?_)
  · refine V.aload_n E dX4_mark_9 rfl rfl ?_
    refine V.getf (C := RX4) (T := TX4) (N := 7) (ref := "GlassSpill") E 0 4 0 (by decide +kernel) rfl rfl (by decide) (by decide +kernel) rfl rfl dX4_mark_10 ?_
    refine V.getf (C := RX2) (T := TX2) (N := 5) (ref := "GlassSpill$Scene") E 2 2 3 (by decide +kernel) rfl rfl (by decide) (by decide +kernel) rfl rfl dX4_mark_13 ?_
    refine V.iload_n E dX4_mark_16 rfl rfl ?_
    refine V.zaldN (v := nI (scG x p_)) E 6 rfl (hp) (by decide) (rfl) dX4_mark_17 ?_
    refine V.iload_n E dX4_mark_18 rfl rfl ?_
    refine V.icmp_neN (tgt := 25) E (Nat.lt_of_le_of_lt (hx.g p_ hp) (by decide)) (Nat.lt_of_le_of_lt (bN_le _) (by decide)) dX4_mark_19 (by decide) (fun q_19 => ?_) (fun q_19 => ?_)
    · exact absurd hg q_19
    · refine V.bipush (v := (-5 : Int32)) E dX4_mark_22 (by decide) ?_
      exact hend _ _ _ _ dX4_mark_24 (nrI _) ⟨rfl, rfl⟩
  · exact absurd ((okI_n hp (by omega)).symm.trans q_4) (by decide)
abbrev rm_c_X4_mark_t : Room := { frames := 3, cells := 0, slots := 0, locals := 70 }
set_option maxRecDepth 100000 in
set_option maxHeartbeats 8000000 in
theorem c_X4_mark_t (G : VC) (ad : AD) (s0 : Option Nat) (s1 : Option Nat) (x : SC) (ha : AD) (rg : Nat → SC) (o : Nat) (n : Nat) (p_ : Nat) (ho6 : o < 6) (hn6 : n ≤ 6) (hx : SInv x) (hp : p_ < 48) (hg : scG x p_ ≠ 1) : Ctr yX4_mark wsX4_mark rm_c_X4_mark_t G [.ref (ad 0 0), .int (nI (p_)), .int (nI (bN true))] (bl [gsW G ad s0 s1, scW G (ad 1) x, hiW G (ad 6) ha o n, scW G (ha 0) (rg 0), scW G (ha 1) (rg 1), scW G (ha 2) (rg 2), scW G (ha 3) (rg 3), scW G (ha 4) (rg 4), scW G (ha 5) (rg 5)]) (fun v9_ u9_ => u9_ = (bl [gsW G ad s0 s1, scW G (ad 1) ((scS x, scF x, scB x, upN (scG x) p_ 1, scC x)), hiW G (ad 6) ha (onN o n) (hlN n), scW G (ha 0) (rgu rg ((o + n) % 6) x 0), scW G (ha 1) (rgu rg ((o + n) % 6) x 1), scW G (ha 2) (rgu rg ((o + n) % 6) x 2), scW G (ha 3) (rgu rg ((o + n) % 6) x 3), scW G (ha 4) (rgu rg ((o + n) % 6) x 4), scW G (ha 5) (rgu rg ((o + n) % 6) x 5)]) ∧ v9_ = some (.int (nI (sumN 48 (upN (scG x) p_ 1))))) := by
  refine Ctr.int (cc := cX4_mark) (maxL := 3) (ret := (some .int)) (lv0 := [some (.ref (ad 0 0)), some (.int (nI (p_))), some (.int (nI (bN true)))]) (by decide) rfl rfl rfl (Nat.le_of_ble_eq_true rfl) rfl (fun A X E hend => ?_)
  refine V.iload_n E dX4_mark_0 rfl rfl ?_
  refine V.callS E (c_X4_isPixel G (nI (p_)) ) (bl [gsW G ad s0 s1, scW G (ad 1) x, hiW G (ad 6) ha o n, scW G (ha 0) (rg 0), scW G (ha 1) (rg 1), scW G (ha 2) (rg 2), scW G (ha 3) (rg 3), scW G (ha 4) (rg 4), scW G (ha 5) (rg 5)]) [] gX4_mark_X4_isPixel rfl hd_X4_isPixel ⟨⟨Nat.le_of_ble_eq_true rfl, Nat.le_of_ble_eq_true rfl⟩, Nat.le_of_ble_eq_true rfl, Nat.le_of_ble_eq_true rfl⟩ rfl (Nat.le_of_ble_eq_true rfl) rfl dX4_mark_1 (List.Perm.refl _) (kc' := 0) (ks' := 0) rfl rfl (rwI (ws' := (bl [gsW G ad s0 s1, scW G (ad 1) x, hiW G (ad 6) ha o n, scW G (ha 0) (rg 0), scW G (ha 1) (rg 1), scW G (ha 2) (rg 2), scW G (ha 3) (rg 3), scW G (ha 4) (rg 4), scW G (ha 5) (rg 5)])) (List.Perm.refl _) ?_)
  refine V.if_neB (tgt := 9) E dX4_mark_4 (by decide) (fun q_4 => ?_) (fun q_4 => ?_)
  · refine V.aload_n E dX4_mark_9 rfl rfl ?_
    refine V.getf (C := RX4) (T := TX4) (N := 7) (ref := "GlassSpill") E 0 4 0 (by decide +kernel) rfl rfl (by decide) (by decide +kernel) rfl rfl dX4_mark_10 ?_
    refine V.getf (C := RX2) (T := TX2) (N := 5) (ref := "GlassSpill$Scene") E 2 2 3 (by decide +kernel) rfl rfl (by decide) (by decide +kernel) rfl rfl dX4_mark_13 ?_
    refine V.iload_n E dX4_mark_16 rfl rfl ?_
    refine V.zaldN (v := nI (scG x p_)) E 6 rfl (hp) (by decide) (rfl) dX4_mark_17 ?_
    refine V.iload_n E dX4_mark_18 rfl rfl ?_
    refine V.icmp_neN (tgt := 25) E (Nat.lt_of_le_of_lt (hx.g p_ hp) (by decide)) (Nat.lt_of_le_of_lt (bN_le _) (by decide)) dX4_mark_19 (by decide) (fun q_19 => ?_) (fun q_19 => ?_)
    · refine V.aload_n E dX4_mark_25 rfl rfl ?_
      refine V.getf (C := RX4) (T := TX4) (N := 7) (ref := "GlassSpill") E 0 4 5 (by decide +kernel) rfl rfl (by decide) (by decide +kernel) rfl rfl dX4_mark_26 ?_
      refine V.aload_n E dX4_mark_29 rfl rfl ?_
      refine V.getf (C := RX4) (T := TX4) (N := 7) (ref := "GlassSpill") E 0 4 0 (by decide +kernel) rfl rfl (by decide) (by decide +kernel) rfl rfl dX4_mark_30 ?_
      refine V.callV (C := RX0) E (c_X0_remember G (ad 6) ha rg o n (ad 1) x (ho6) (hn6) (hx)) (bl [gsW G ad s0 s1]) [] 7 0 rfl rfl rfl gX4_mark_X0_remember rfl ⟨rfl, hd_X0_remember⟩ ⟨⟨Nat.le_of_ble_eq_true rfl, Nat.le_of_ble_eq_true rfl⟩, Nat.le_of_ble_eq_true rfl, Nat.le_of_ble_eq_true rfl⟩ rfl (Nat.le_of_ble_eq_true rfl) rfl dX4_mark_33 (pBs (n := 9) [gsW G ad s0 s1, scW G (ad 1) x, hiW G (ad 6) ha o n, scW G (ha 0) (rg 0), scW G (ha 1) (rg 1), scW G (ha 2) (rg 2), scW G (ha 3) (rg 3), scW G (ha 4) (rg 4), scW G (ha 5) (rg 5)] [2, 3, 4, 5, 6, 7, 8, 1] [0] rfl (by decide)) (kc' := 0) (ks' := 0) rfl rfl (rwV (ws' := (bl [gsW G ad s0 s1, scW G (ad 1) x, hiW G (ad 6) ha (onN o n) (hlN n), scW G (ha 0) (rgu rg ((o + n) % 6) x 0), scW G (ha 1) (rgu rg ((o + n) % 6) x 1), scW G (ha 2) (rgu rg ((o + n) % 6) x 2), scW G (ha 3) (rgu rg ((o + n) % 6) x 3), scW G (ha 4) (rgu rg ((o + n) % 6) x 4), scW G (ha 5) (rgu rg ((o + n) % 6) x 5)])) (pBs (n := 9) [gsW G ad s0 s1, scW G (ad 1) x, hiW G (ad 6) ha (onN o n) (hlN n), scW G (ha 0) (rgu rg ((o + n) % 6) x 0), scW G (ha 1) (rgu rg ((o + n) % 6) x 1), scW G (ha 2) (rgu rg ((o + n) % 6) x 2), scW G (ha 3) (rgu rg ((o + n) % 6) x 3), scW G (ha 4) (rgu rg ((o + n) % 6) x 4), scW G (ha 5) (rgu rg ((o + n) % 6) x 5)] [2, 3, 4, 5, 6, 7, 8, 1] [0] rfl (by decide)).symm ?_)
      refine V.aload_n E dX4_mark_36 rfl rfl ?_
      refine V.getf (C := RX4) (T := TX4) (N := 7) (ref := "GlassSpill") E 0 4 0 (by decide +kernel) rfl rfl (by decide) (by decide +kernel) rfl rfl dX4_mark_37 ?_
      refine V.getf (C := RX2) (T := TX2) (N := 5) (ref := "GlassSpill$Scene") E 2 2 3 (by decide +kernel) rfl rfl (by decide) (by decide +kernel) rfl rfl dX4_mark_40 ?_
      refine V.iload_n E dX4_mark_43 rfl rfl ?_
      refine V.iload_n E dX4_mark_44 rfl rfl ?_
      refine V.zastN (f' := nA (upN (scG x) p_ 1)) (ws' := (bl [gsW G ad s0 s1, scW G (ad 1) ((scS x, scF x, scB x, upN (scG x) p_ 1, scC x)), hiW G (ad 6) ha (onN o n) (hlN n), scW G (ha 0) (rgu rg ((o + n) % 6) x 0), scW G (ha 1) (rgu rg ((o + n) % 6) x 1), scW G (ha 2) (rgu rg ((o + n) % 6) x 2), scW G (ha 3) (rgu rg ((o + n) % 6) x 3), scW G (ha 4) (rgu rg ((o + n) % 6) x 4), scW G (ha 5) (rgu rg ((o + n) % 6) x 5)])) E 6 rfl (hp) (by decide) dX4_mark_45 (vnb _ (bN_le _)) (fun j _ => upN_a j) rfl ?_
      refine V.aload_n E dX4_mark_46 rfl rfl ?_
      refine V.getf (C := RX4) (T := TX4) (N := 7) (ref := "GlassSpill") E 0 4 0 (by decide +kernel) rfl rfl (by decide) (by decide +kernel) rfl rfl dX4_mark_47 ?_
      refine V.callV (C := RX2) E (c_X2_marked G (ad 1) ((scS x, scF x, scB x, upN (scG x) p_ 1, scC x)) (hx.mk hp (by decide))) (bl [gsW G ad s0 s1, hiW G (ad 6) ha (onN o n) (hlN n), scW G (ha 0) (rgu rg ((o + n) % 6) x 0), scW G (ha 1) (rgu rg ((o + n) % 6) x 1), scW G (ha 2) (rgu rg ((o + n) % 6) x 2), scW G (ha 3) (rgu rg ((o + n) % 6) x 3), scW G (ha 4) (rgu rg ((o + n) % 6) x 4), scW G (ha 5) (rgu rg ((o + n) % 6) x 5)]) [] 2 2 rfl rfl rfl gX4_mark_X2_marked rfl ⟨rfl, hd_X2_marked⟩ ⟨⟨Nat.le_of_ble_eq_true rfl, Nat.le_of_ble_eq_true rfl⟩, Nat.le_of_ble_eq_true rfl, Nat.le_of_ble_eq_true rfl⟩ rfl (Nat.le_of_ble_eq_true rfl) rfl dX4_mark_50 (pBs (n := 9) [gsW G ad s0 s1, scW G (ad 1) ((scS x, scF x, scB x, upN (scG x) p_ 1, scC x)), hiW G (ad 6) ha (onN o n) (hlN n), scW G (ha 0) (rgu rg ((o + n) % 6) x 0), scW G (ha 1) (rgu rg ((o + n) % 6) x 1), scW G (ha 2) (rgu rg ((o + n) % 6) x 2), scW G (ha 3) (rgu rg ((o + n) % 6) x 3), scW G (ha 4) (rgu rg ((o + n) % 6) x 4), scW G (ha 5) (rgu rg ((o + n) % 6) x 5)] [1] [0, 2, 3, 4, 5, 6, 7, 8] rfl (by decide)) (kc' := 0) (ks' := 0) rfl rfl (rwI (ws' := (bl [gsW G ad s0 s1, scW G (ad 1) (scS x, scF x, scB x, upN (scG x) p_ 1, scC x), hiW G (ad 6) ha (onN o n) (hlN n), scW G (ha 0) (rgu rg ((o + n) % 6) x 0), scW G (ha 1) (rgu rg ((o + n) % 6) x 1), scW G (ha 2) (rgu rg ((o + n) % 6) x 2), scW G (ha 3) (rgu rg ((o + n) % 6) x 3), scW G (ha 4) (rgu rg ((o + n) % 6) x 4), scW G (ha 5) (rgu rg ((o + n) % 6) x 5)])) (pBs (n := 9) [gsW G ad s0 s1, scW G (ad 1) (scS x, scF x, scB x, upN (scG x) p_ 1, scC x), hiW G (ad 6) ha (onN o n) (hlN n), scW G (ha 0) (rgu rg ((o + n) % 6) x 0), scW G (ha 1) (rgu rg ((o + n) % 6) x 1), scW G (ha 2) (rgu rg ((o + n) % 6) x 2), scW G (ha 3) (rgu rg ((o + n) % 6) x 3), scW G (ha 4) (rgu rg ((o + n) % 6) x 4), scW G (ha 5) (rgu rg ((o + n) % 6) x 5)] [1] [0, 2, 3, 4, 5, 6, 7, 8] rfl (by decide)).symm ?_)
      refine V.topN (b := sumN 48 (upN (scG x) p_ 1)) (by first | rfl | omega | simp_all) ?_
      exact hend _ _ _ _ dX4_mark_53 (nrI _) ⟨rfl, rfl⟩
    · exact absurd q_19 hg
  · exact absurd ((okI_n hp (by omega)).symm.trans q_4) (by decide)
abbrev rm_c_X4_mark_same_f : Room := { frames := 1, cells := 0, slots := 0, locals := 20 }
set_option maxRecDepth 100000 in
set_option maxHeartbeats 8000000 in
theorem c_X4_mark_same_f (G : VC) (ad : AD) (s0 : Option Nat) (s1 : Option Nat) (x : SC) (p_ : Nat) (hx : SInv x) (hp : p_ < 48) (hg : scG x p_ = 0) : Ctr yX4_mark wsX4_mark rm_c_X4_mark_same_f G [.ref (ad 0 0), .int (nI (p_)), .int (nI (bN false))] (bl [gsW G ad s0 s1, scW G (ad 1) x]) (fun v9_ u9_ => u9_ = (bl [gsW G ad s0 s1, scW G (ad 1) x]) ∧ v9_ = some (.int ((-5 : Int32)))) := by
  refine Ctr.int (cc := cX4_mark) (maxL := 3) (ret := (some .int)) (lv0 := [some (.ref (ad 0 0)), some (.int (nI (p_))), some (.int (nI (bN false)))]) (by decide) rfl rfl rfl (Nat.le_of_ble_eq_true rfl) rfl (fun A X E hend => ?_)
  refine V.iload_n E dX4_mark_0 rfl rfl ?_
  refine V.callS E (c_X4_isPixel G (nI (p_)) ) (bl [gsW G ad s0 s1, scW G (ad 1) x]) [] gX4_mark_X4_isPixel rfl hd_X4_isPixel ⟨⟨Nat.le_of_ble_eq_true rfl, Nat.le_of_ble_eq_true rfl⟩, Nat.le_of_ble_eq_true rfl, Nat.le_of_ble_eq_true rfl⟩ rfl (Nat.le_of_ble_eq_true rfl) rfl dX4_mark_1 (List.Perm.refl _) (kc' := 0) (ks' := 0) rfl rfl (rwI (ws' := (bl [gsW G ad s0 s1, scW G (ad 1) x])) (List.Perm.refl _) ?_)
  refine V.if_neB (tgt := 9) E dX4_mark_4 (by decide) (fun q_4 => ?_) (fun q_4 => ?_)
  · refine V.aload_n E dX4_mark_9 rfl rfl ?_
    refine V.getf (C := RX4) (T := TX4) (N := 7) (ref := "GlassSpill") E 0 4 0 (by decide +kernel) rfl rfl (by decide) (by decide +kernel) rfl rfl dX4_mark_10 ?_
    refine V.getf (C := RX2) (T := TX2) (N := 5) (ref := "GlassSpill$Scene") E 2 2 3 (by decide +kernel) rfl rfl (by decide) (by decide +kernel) rfl rfl dX4_mark_13 ?_
    refine V.iload_n E dX4_mark_16 rfl rfl ?_
    refine V.zaldN (v := nI (scG x p_)) E 6 rfl (hp) (by decide) (rfl) dX4_mark_17 ?_
    refine V.iload_n E dX4_mark_18 rfl rfl ?_
    refine V.icmp_neN (tgt := 25) E (Nat.lt_of_le_of_lt (hx.g p_ hp) (by decide)) (Nat.lt_of_le_of_lt (bN_le _) (by decide)) dX4_mark_19 (by decide) (fun q_19 => ?_) (fun q_19 => ?_)
    · exact absurd hg q_19
    · refine V.bipush (v := (-5 : Int32)) E dX4_mark_22 (by decide) ?_
      exact hend _ _ _ _ dX4_mark_24 (nrI _) ⟨rfl, rfl⟩
  · exact absurd ((okI_n hp (by omega)).symm.trans q_4) (by decide)
abbrev rm_c_X4_mark_f : Room := { frames := 3, cells := 0, slots := 0, locals := 70 }
set_option maxRecDepth 100000 in
set_option maxHeartbeats 8000000 in
theorem c_X4_mark_f (G : VC) (ad : AD) (s0 : Option Nat) (s1 : Option Nat) (x : SC) (ha : AD) (rg : Nat → SC) (o : Nat) (n : Nat) (p_ : Nat) (ho6 : o < 6) (hn6 : n ≤ 6) (hx : SInv x) (hp : p_ < 48) (hg : scG x p_ ≠ 0) : Ctr yX4_mark wsX4_mark rm_c_X4_mark_f G [.ref (ad 0 0), .int (nI (p_)), .int (nI (bN false))] (bl [gsW G ad s0 s1, scW G (ad 1) x, hiW G (ad 6) ha o n, scW G (ha 0) (rg 0), scW G (ha 1) (rg 1), scW G (ha 2) (rg 2), scW G (ha 3) (rg 3), scW G (ha 4) (rg 4), scW G (ha 5) (rg 5)]) (fun v9_ u9_ => u9_ = (bl [gsW G ad s0 s1, scW G (ad 1) ((scS x, scF x, scB x, upN (scG x) p_ 0, scC x)), hiW G (ad 6) ha (onN o n) (hlN n), scW G (ha 0) (rgu rg ((o + n) % 6) x 0), scW G (ha 1) (rgu rg ((o + n) % 6) x 1), scW G (ha 2) (rgu rg ((o + n) % 6) x 2), scW G (ha 3) (rgu rg ((o + n) % 6) x 3), scW G (ha 4) (rgu rg ((o + n) % 6) x 4), scW G (ha 5) (rgu rg ((o + n) % 6) x 5)]) ∧ v9_ = some (.int (nI (sumN 48 (upN (scG x) p_ 0))))) := by
  refine Ctr.int (cc := cX4_mark) (maxL := 3) (ret := (some .int)) (lv0 := [some (.ref (ad 0 0)), some (.int (nI (p_))), some (.int (nI (bN false)))]) (by decide) rfl rfl rfl (Nat.le_of_ble_eq_true rfl) rfl (fun A X E hend => ?_)
  refine V.iload_n E dX4_mark_0 rfl rfl ?_
  refine V.callS E (c_X4_isPixel G (nI (p_)) ) (bl [gsW G ad s0 s1, scW G (ad 1) x, hiW G (ad 6) ha o n, scW G (ha 0) (rg 0), scW G (ha 1) (rg 1), scW G (ha 2) (rg 2), scW G (ha 3) (rg 3), scW G (ha 4) (rg 4), scW G (ha 5) (rg 5)]) [] gX4_mark_X4_isPixel rfl hd_X4_isPixel ⟨⟨Nat.le_of_ble_eq_true rfl, Nat.le_of_ble_eq_true rfl⟩, Nat.le_of_ble_eq_true rfl, Nat.le_of_ble_eq_true rfl⟩ rfl (Nat.le_of_ble_eq_true rfl) rfl dX4_mark_1 (List.Perm.refl _) (kc' := 0) (ks' := 0) rfl rfl (rwI (ws' := (bl [gsW G ad s0 s1, scW G (ad 1) x, hiW G (ad 6) ha o n, scW G (ha 0) (rg 0), scW G (ha 1) (rg 1), scW G (ha 2) (rg 2), scW G (ha 3) (rg 3), scW G (ha 4) (rg 4), scW G (ha 5) (rg 5)])) (List.Perm.refl _) ?_)
  refine V.if_neB (tgt := 9) E dX4_mark_4 (by decide) (fun q_4 => ?_) (fun q_4 => ?_)
  · refine V.aload_n E dX4_mark_9 rfl rfl ?_
    refine V.getf (C := RX4) (T := TX4) (N := 7) (ref := "GlassSpill") E 0 4 0 (by decide +kernel) rfl rfl (by decide) (by decide +kernel) rfl rfl dX4_mark_10 ?_
    refine V.getf (C := RX2) (T := TX2) (N := 5) (ref := "GlassSpill$Scene") E 2 2 3 (by decide +kernel) rfl rfl (by decide) (by decide +kernel) rfl rfl dX4_mark_13 ?_
    refine V.iload_n E dX4_mark_16 rfl rfl ?_
    refine V.zaldN (v := nI (scG x p_)) E 6 rfl (hp) (by decide) (rfl) dX4_mark_17 ?_
    refine V.iload_n E dX4_mark_18 rfl rfl ?_
    refine V.icmp_neN (tgt := 25) E (Nat.lt_of_le_of_lt (hx.g p_ hp) (by decide)) (Nat.lt_of_le_of_lt (bN_le _) (by decide)) dX4_mark_19 (by decide) (fun q_19 => ?_) (fun q_19 => ?_)
    · refine V.aload_n E dX4_mark_25 rfl rfl ?_
      refine V.getf (C := RX4) (T := TX4) (N := 7) (ref := "GlassSpill") E 0 4 5 (by decide +kernel) rfl rfl (by decide) (by decide +kernel) rfl rfl dX4_mark_26 ?_
      refine V.aload_n E dX4_mark_29 rfl rfl ?_
      refine V.getf (C := RX4) (T := TX4) (N := 7) (ref := "GlassSpill") E 0 4 0 (by decide +kernel) rfl rfl (by decide) (by decide +kernel) rfl rfl dX4_mark_30 ?_
      refine V.callV (C := RX0) E (c_X0_remember G (ad 6) ha rg o n (ad 1) x (ho6) (hn6) (hx)) (bl [gsW G ad s0 s1]) [] 7 0 rfl rfl rfl gX4_mark_X0_remember rfl ⟨rfl, hd_X0_remember⟩ ⟨⟨Nat.le_of_ble_eq_true rfl, Nat.le_of_ble_eq_true rfl⟩, Nat.le_of_ble_eq_true rfl, Nat.le_of_ble_eq_true rfl⟩ rfl (Nat.le_of_ble_eq_true rfl) rfl dX4_mark_33 (pBs (n := 9) [gsW G ad s0 s1, scW G (ad 1) x, hiW G (ad 6) ha o n, scW G (ha 0) (rg 0), scW G (ha 1) (rg 1), scW G (ha 2) (rg 2), scW G (ha 3) (rg 3), scW G (ha 4) (rg 4), scW G (ha 5) (rg 5)] [2, 3, 4, 5, 6, 7, 8, 1] [0] rfl (by decide)) (kc' := 0) (ks' := 0) rfl rfl (rwV (ws' := (bl [gsW G ad s0 s1, scW G (ad 1) x, hiW G (ad 6) ha (onN o n) (hlN n), scW G (ha 0) (rgu rg ((o + n) % 6) x 0), scW G (ha 1) (rgu rg ((o + n) % 6) x 1), scW G (ha 2) (rgu rg ((o + n) % 6) x 2), scW G (ha 3) (rgu rg ((o + n) % 6) x 3), scW G (ha 4) (rgu rg ((o + n) % 6) x 4), scW G (ha 5) (rgu rg ((o + n) % 6) x 5)])) (pBs (n := 9) [gsW G ad s0 s1, scW G (ad 1) x, hiW G (ad 6) ha (onN o n) (hlN n), scW G (ha 0) (rgu rg ((o + n) % 6) x 0), scW G (ha 1) (rgu rg ((o + n) % 6) x 1), scW G (ha 2) (rgu rg ((o + n) % 6) x 2), scW G (ha 3) (rgu rg ((o + n) % 6) x 3), scW G (ha 4) (rgu rg ((o + n) % 6) x 4), scW G (ha 5) (rgu rg ((o + n) % 6) x 5)] [2, 3, 4, 5, 6, 7, 8, 1] [0] rfl (by decide)).symm ?_)
      refine V.aload_n E dX4_mark_36 rfl rfl ?_
      refine V.getf (C := RX4) (T := TX4) (N := 7) (ref := "GlassSpill") E 0 4 0 (by decide +kernel) rfl rfl (by decide) (by decide +kernel) rfl rfl dX4_mark_37 ?_
      refine V.getf (C := RX2) (T := TX2) (N := 5) (ref := "GlassSpill$Scene") E 2 2 3 (by decide +kernel) rfl rfl (by decide) (by decide +kernel) rfl rfl dX4_mark_40 ?_
      refine V.iload_n E dX4_mark_43 rfl rfl ?_
      refine V.iload_n E dX4_mark_44 rfl rfl ?_
      refine V.zastN (f' := nA (upN (scG x) p_ 0)) (ws' := (bl [gsW G ad s0 s1, scW G (ad 1) ((scS x, scF x, scB x, upN (scG x) p_ 0, scC x)), hiW G (ad 6) ha (onN o n) (hlN n), scW G (ha 0) (rgu rg ((o + n) % 6) x 0), scW G (ha 1) (rgu rg ((o + n) % 6) x 1), scW G (ha 2) (rgu rg ((o + n) % 6) x 2), scW G (ha 3) (rgu rg ((o + n) % 6) x 3), scW G (ha 4) (rgu rg ((o + n) % 6) x 4), scW G (ha 5) (rgu rg ((o + n) % 6) x 5)])) E 6 rfl (hp) (by decide) dX4_mark_45 (vnb _ (bN_le _)) (fun j _ => upN_a j) rfl ?_
      refine V.aload_n E dX4_mark_46 rfl rfl ?_
      refine V.getf (C := RX4) (T := TX4) (N := 7) (ref := "GlassSpill") E 0 4 0 (by decide +kernel) rfl rfl (by decide) (by decide +kernel) rfl rfl dX4_mark_47 ?_
      refine V.callV (C := RX2) E (c_X2_marked G (ad 1) ((scS x, scF x, scB x, upN (scG x) p_ 0, scC x)) (hx.mk hp (by decide))) (bl [gsW G ad s0 s1, hiW G (ad 6) ha (onN o n) (hlN n), scW G (ha 0) (rgu rg ((o + n) % 6) x 0), scW G (ha 1) (rgu rg ((o + n) % 6) x 1), scW G (ha 2) (rgu rg ((o + n) % 6) x 2), scW G (ha 3) (rgu rg ((o + n) % 6) x 3), scW G (ha 4) (rgu rg ((o + n) % 6) x 4), scW G (ha 5) (rgu rg ((o + n) % 6) x 5)]) [] 2 2 rfl rfl rfl gX4_mark_X2_marked rfl ⟨rfl, hd_X2_marked⟩ ⟨⟨Nat.le_of_ble_eq_true rfl, Nat.le_of_ble_eq_true rfl⟩, Nat.le_of_ble_eq_true rfl, Nat.le_of_ble_eq_true rfl⟩ rfl (Nat.le_of_ble_eq_true rfl) rfl dX4_mark_50 (pBs (n := 9) [gsW G ad s0 s1, scW G (ad 1) ((scS x, scF x, scB x, upN (scG x) p_ 0, scC x)), hiW G (ad 6) ha (onN o n) (hlN n), scW G (ha 0) (rgu rg ((o + n) % 6) x 0), scW G (ha 1) (rgu rg ((o + n) % 6) x 1), scW G (ha 2) (rgu rg ((o + n) % 6) x 2), scW G (ha 3) (rgu rg ((o + n) % 6) x 3), scW G (ha 4) (rgu rg ((o + n) % 6) x 4), scW G (ha 5) (rgu rg ((o + n) % 6) x 5)] [1] [0, 2, 3, 4, 5, 6, 7, 8] rfl (by decide)) (kc' := 0) (ks' := 0) rfl rfl (rwI (ws' := (bl [gsW G ad s0 s1, scW G (ad 1) (scS x, scF x, scB x, upN (scG x) p_ 0, scC x), hiW G (ad 6) ha (onN o n) (hlN n), scW G (ha 0) (rgu rg ((o + n) % 6) x 0), scW G (ha 1) (rgu rg ((o + n) % 6) x 1), scW G (ha 2) (rgu rg ((o + n) % 6) x 2), scW G (ha 3) (rgu rg ((o + n) % 6) x 3), scW G (ha 4) (rgu rg ((o + n) % 6) x 4), scW G (ha 5) (rgu rg ((o + n) % 6) x 5)])) (pBs (n := 9) [gsW G ad s0 s1, scW G (ad 1) (scS x, scF x, scB x, upN (scG x) p_ 0, scC x), hiW G (ad 6) ha (onN o n) (hlN n), scW G (ha 0) (rgu rg ((o + n) % 6) x 0), scW G (ha 1) (rgu rg ((o + n) % 6) x 1), scW G (ha 2) (rgu rg ((o + n) % 6) x 2), scW G (ha 3) (rgu rg ((o + n) % 6) x 3), scW G (ha 4) (rgu rg ((o + n) % 6) x 4), scW G (ha 5) (rgu rg ((o + n) % 6) x 5)] [1] [0, 2, 3, 4, 5, 6, 7, 8] rfl (by decide)).symm ?_)
      refine V.topN (b := sumN 48 (upN (scG x) p_ 0)) (by first | rfl | omega | simp_all) ?_
      exact hend _ _ _ _ dX4_mark_53 (nrI _) ⟨rfl, rfl⟩
    · exact absurd q_19 hg
  · exact absurd ((okI_n hp (by omega)).symm.trans q_4) (by decide)
abbrev rm_c_X4_leastNear_bad : Room := { frames := 1, cells := 0, slots := 0, locals := 20 }
theorem hd_X4_leastNear : yX4_leastNear.cls ≠ "java/lang/invoke/MethodHandle" ∧ yX4_leastNear.cls ≠ "java/lang/invoke/VarHandle" ∧ (parseMethodDescriptor yX4_leastNear.desc).map (fun d => d.parameters.length) = some 1 := by decide +kernel
set_option maxRecDepth 100000 in
set_option maxHeartbeats 8000000 in
theorem c_X4_leastNear_bad (G : VC) (ad : AD) (s0 : Option Nat) (s1 : Option Nat) (x : SC) (p_ : Int32) (hb : okI 48 p_ = false) : Ctr yX4_leastNear wsX4_leastNear rm_c_X4_leastNear_bad G [.ref (ad 0 0), .int (p_)] (bl [gsW G ad s0 s1, scW G (ad 1) x]) (fun v9_ u9_ => u9_ = (bl [gsW G ad s0 s1, scW G (ad 1) x]) ∧ v9_ = some (.int ((-1 : Int32)))) := by
  refine Ctr.int (cc := cX4_leastNear) (maxL := 3) (ret := (some .int)) (lv0 := [some (.ref (ad 0 0)), some (.int (p_)), none]) (by decide) rfl rfl rfl (Nat.le_of_ble_eq_true rfl) rfl (fun A X E hend => ?_)
  refine V.iload_n E dX4_leastNear_0 rfl rfl ?_
  refine V.callS E (c_X4_isPixel G p_ ) (bl [gsW G ad s0 s1, scW G (ad 1) x]) [] gX4_leastNear_X4_isPixel rfl hd_X4_isPixel ⟨⟨Nat.le_of_ble_eq_true rfl, Nat.le_of_ble_eq_true rfl⟩, Nat.le_of_ble_eq_true rfl, Nat.le_of_ble_eq_true rfl⟩ rfl (Nat.le_of_ble_eq_true rfl) rfl dX4_leastNear_1 (List.Perm.refl _) (kc' := 0) (ks' := 0) rfl rfl (rwI (ws' := (bl [gsW G ad s0 s1, scW G (ad 1) x])) (List.Perm.refl _) ?_)
  refine V.if_neB (tgt := 9) E dX4_leastNear_4 (by decide) (fun q_4 => ?_) (fun q_4 => ?_)
  · exact absurd (hb.symm.trans q_4) (by decide)
  · refine V.iconst (v := (-1 : Int32)) E dX4_leastNear_7 (by decide) ?_
    exact hend _ _ _ _ dX4_leastNear_8 (nrI _) ⟨rfl, rfl⟩
abbrev rm_c_X4_leastNear_ok : Room := { frames := 4, cells := 0, slots := 0, locals := 85 }
set_option maxRecDepth 100000 in
set_option maxHeartbeats 8000000 in
theorem c_X4_leastNear_ok (G : VC) (ad : AD) (s0 : Option Nat) (s1 : Option Nat) (x : SC) (p_ : Nat) (hx : SInv x) (hp : p_ < 48) : Ctr yX4_leastNear wsX4_leastNear rm_c_X4_leastNear_ok G [.ref (ad 0 0), .int (nI (p_))] (bl [gsW G ad s0 s1, scW G (ad 1) x]) (fun v9_ u9_ => u9_ = (bl [gsW G ad s0 s1, scW G (ad 1) x]) ∧ v9_ = some (.int (if dist (scF x p_) (scC x) < scS x 1 then nI (dist (scF x p_) (scC x)) else (-6 : Int32)))) := by
  refine Ctr.int (cc := cX4_leastNear) (maxL := 3) (ret := (some .int)) (lv0 := [some (.ref (ad 0 0)), some (.int (nI (p_))), none]) (by decide) rfl rfl rfl (Nat.le_of_ble_eq_true rfl) rfl (fun A X E hend => ?_)
  refine V.iload_n E dX4_leastNear_0 rfl rfl ?_
  refine V.callS E (c_X4_isPixel G (nI (p_)) ) (bl [gsW G ad s0 s1, scW G (ad 1) x]) [] gX4_leastNear_X4_isPixel rfl hd_X4_isPixel ⟨⟨Nat.le_of_ble_eq_true rfl, Nat.le_of_ble_eq_true rfl⟩, Nat.le_of_ble_eq_true rfl, Nat.le_of_ble_eq_true rfl⟩ rfl (Nat.le_of_ble_eq_true rfl) rfl dX4_leastNear_1 (List.Perm.refl _) (kc' := 0) (ks' := 0) rfl rfl (rwI (ws' := (bl [gsW G ad s0 s1, scW G (ad 1) x])) (List.Perm.refl _) ?_)
  refine V.if_neB (tgt := 9) E dX4_leastNear_4 (by decide) (fun q_4 => ?_) (fun q_4 => ?_)
  · refine V.aload_n E dX4_leastNear_9 rfl rfl ?_
    refine V.getf (C := RX4) (T := TX4) (N := 7) (ref := "GlassSpill") E 0 4 0 (by decide +kernel) rfl rfl (by decide) (by decide +kernel) rfl rfl dX4_leastNear_10 ?_
    refine V.iload_n E dX4_leastNear_13 rfl rfl ?_
    refine V.callV (C := RX2) E (c_X2_distanceOf G (ad 1) x p_ (hx) (hp)) (bl [gsW G ad s0 s1]) [] 2 2 rfl rfl rfl gX4_leastNear_X2_distanceOf rfl ⟨rfl, hd_X2_distanceOf⟩ ⟨⟨Nat.le_of_ble_eq_true rfl, Nat.le_of_ble_eq_true rfl⟩, Nat.le_of_ble_eq_true rfl, Nat.le_of_ble_eq_true rfl⟩ rfl (Nat.le_of_ble_eq_true rfl) rfl dX4_leastNear_14 (pBs (n := 2) [gsW G ad s0 s1, scW G (ad 1) x] [1] [0] rfl (by decide)) (kc' := 0) (ks' := 0) rfl rfl (rwI (ws' := (bl [gsW G ad s0 s1, scW G (ad 1) x])) (pBs (n := 2) [gsW G ad s0 s1, scW G (ad 1) x] [1] [0] rfl (by decide)).symm ?_)
    refine V.istore_n (lv' := [some (.ref (ad 0 0)), some (.int (nI (p_))), some (.int (nI (dist (scF x p_) (scC x))))]) E dX4_leastNear_17 rfl (Nat.le_of_ble_eq_true rfl) rfl rfl ?_
    refine V.iload_n E dX4_leastNear_18 rfl rfl ?_
    refine V.aload_n E dX4_leastNear_19 rfl rfl ?_
    refine V.getf (C := RX4) (T := TX4) (N := 7) (ref := "GlassSpill") E 0 4 0 (by decide +kernel) rfl rfl (by decide) (by decide +kernel) rfl rfl dX4_leastNear_20 ?_
    refine V.getf (C := RX2) (T := TX2) (N := 5) (ref := "GlassSpill$Scene") E 2 2 0 (by decide +kernel) rfl rfl (by decide) (by decide +kernel) rfl rfl dX4_leastNear_23 ?_
    refine V.iconst (v := nI (1)) E dX4_leastNear_26 (by decide) ?_
    refine V.ialdN (v := nI (scS x 1)) E 3 rfl (by omega) (by decide) (rfl) dX4_leastNear_27 ?_
    refine V.icmp_geN (tgt := 35) E (Nat.lt_of_le_of_lt (dist_le _ _) (by decide)) (by have := hx.s1; omega) dX4_leastNear_28 (by decide) (fun q_28 => ?_) (fun q_28 => ?_)
    · refine V.bipush (v := (-6 : Int32)) E dX4_leastNear_35 (by decide) ?_
      refine V.top (y := if dist (scF x p_) (scC x) < scS x 1 then nI (dist (scF x p_) (scC x)) else (-6 : Int32)) (by first | rw [if_pos q_28] | rw [if_neg (by omega)]) ?_
      exact hend _ _ _ _ dX4_leastNear_37 (nrI _) ⟨rfl, rfl⟩
    · refine V.iload_n E dX4_leastNear_31 rfl rfl ?_
      refine V.goto (tgt := 37) E dX4_leastNear_32 (by decide) ?_
      refine V.top (y := if dist (scF x p_) (scC x) < scS x 1 then nI (dist (scF x p_) (scC x)) else (-6 : Int32)) (by first | rw [if_pos q_28] | rw [if_neg (by omega)]) ?_
      exact hend _ _ _ _ dX4_leastNear_37 (nrI _) ⟨rfl, rfl⟩
  · exact absurd ((okI_n hp (by omega)).symm.trans q_4) (by decide)
abbrev rm_c_X4_row_bad : Room := { frames := 1, cells := 0, slots := 0, locals := 20 }
theorem hd_X4_row : yX4_row.cls ≠ "java/lang/invoke/MethodHandle" ∧ yX4_row.cls ≠ "java/lang/invoke/VarHandle" ∧ (parseMethodDescriptor yX4_row.desc).map (fun d => d.parameters.length) = some 2 := by decide +kernel
set_option maxRecDepth 100000 in
set_option maxHeartbeats 8000000 in
theorem c_X4_row_bad (G : VC) (ad : AD) (s0 : Option Nat) (s1 : Option Nat) (x : SC) (r_ : Int32) (k_ : Int32) (hb : okI 6 r_ = false) : Ctr yX4_row wsX4_row rm_c_X4_row_bad G [.ref (ad 0 0), .int (r_), .int (k_)] (bl [gsW G ad s0 s1, scW G (ad 1) x]) (fun v9_ u9_ => u9_ = (bl [gsW G ad s0 s1, scW G (ad 1) x]) ∧ v9_ = some (.int ((-1 : Int32)))) := by
  refine Ctr.int (cc := cX4_row) (maxL := 5) (ret := (some .int)) (lv0 := [some (.ref (ad 0 0)), some (.int (r_)), some (.int (k_)), none, none]) (by decide) rfl rfl rfl (Nat.le_of_ble_eq_true rfl) rfl (fun A X E hend => ?_)
  refine V.iload_n E dX4_row_0 rfl rfl ?_
  refine V.callS E (c_X4_isRow G r_ ) (bl [gsW G ad s0 s1, scW G (ad 1) x]) [] gX4_row_X4_isRow rfl hd_X4_isRow ⟨⟨Nat.le_of_ble_eq_true rfl, Nat.le_of_ble_eq_true rfl⟩, Nat.le_of_ble_eq_true rfl, Nat.le_of_ble_eq_true rfl⟩ rfl (Nat.le_of_ble_eq_true rfl) rfl dX4_row_1 (List.Perm.refl _) (kc' := 0) (ks' := 0) rfl rfl (rwI (ws' := (bl [gsW G ad s0 s1, scW G (ad 1) x])) (List.Perm.refl _) ?_)
  refine V.if_neB (tgt := 9) E dX4_row_4 (by decide) (fun q_4 => ?_) (fun q_4 => ?_)
  · exact absurd (hb.symm.trans q_4) (by decide)
  · refine V.iconst (v := (-1 : Int32)) E dX4_row_7 (by decide) ?_
    exact hend _ _ _ _ dX4_row_8 (nrI _) ⟨rfl, rfl⟩
abbrev rm_c_X4_row_bk : Room := { frames := 1, cells := 0, slots := 0, locals := 20 }
set_option maxRecDepth 100000 in
set_option maxHeartbeats 8000000 in
theorem c_X4_row_bk (G : VC) (ad : AD) (s0 : Option Nat) (s1 : Option Nat) (x : SC) (r_ : Nat) (k_ : Int32) (hp : r_ < 6) (hb : okI 5 k_ = false) : Ctr yX4_row wsX4_row rm_c_X4_row_bk G [.ref (ad 0 0), .int (nI (r_)), .int (k_)] (bl [gsW G ad s0 s1, scW G (ad 1) x]) (fun v9_ u9_ => u9_ = (bl [gsW G ad s0 s1, scW G (ad 1) x]) ∧ v9_ = some (.int ((-2 : Int32)))) := by
  refine Ctr.int (cc := cX4_row) (maxL := 5) (ret := (some .int)) (lv0 := [some (.ref (ad 0 0)), some (.int (nI (r_))), some (.int (k_)), none, none]) (by decide) rfl rfl rfl (Nat.le_of_ble_eq_true rfl) rfl (fun A X E hend => ?_)
  refine V.iload_n E dX4_row_0 rfl rfl ?_
  refine V.callS E (c_X4_isRow G (nI (r_)) ) (bl [gsW G ad s0 s1, scW G (ad 1) x]) [] gX4_row_X4_isRow rfl hd_X4_isRow ⟨⟨Nat.le_of_ble_eq_true rfl, Nat.le_of_ble_eq_true rfl⟩, Nat.le_of_ble_eq_true rfl, Nat.le_of_ble_eq_true rfl⟩ rfl (Nat.le_of_ble_eq_true rfl) rfl dX4_row_1 (List.Perm.refl _) (kc' := 0) (ks' := 0) rfl rfl (rwI (ws' := (bl [gsW G ad s0 s1, scW G (ad 1) x])) (List.Perm.refl _) ?_)
  refine V.if_neB (tgt := 9) E dX4_row_4 (by decide) (fun q_4 => ?_) (fun q_4 => ?_)
  · refine V.iload_n E dX4_row_9 rfl rfl ?_
    refine V.if_lt (tgt := 18) E dX4_row_10 (by decide) (fun q_10 => ?_) (fun q_10 => ?_)
    · refine V.bipush (v := (-2 : Int32)) E dX4_row_18 (by decide) ?_
      exact hend _ _ _ _ dX4_row_20 (nrI _) ⟨rfl, rfl⟩
    · refine V.iload_n E dX4_row_13 rfl rfl ?_
      refine V.iconst (v := nI (5)) E dX4_row_14 (by decide) ?_
      refine V.icmp_lt (tgt := 21) E dX4_row_15 (by decide) (fun q_15 => ?_) (fun q_15 => ?_)
      · exact absurd (hb.symm.trans (okI_of q_10 (fun e => by rw [i_le, nI_toInt (by decide)] at e; rw [i_lt, nI_toInt (by decide)] at q_15; omega) (by decide))) (by decide)
      · refine V.bipush (v := (-2 : Int32)) E dX4_row_18 (by decide) ?_
        exact hend _ _ _ _ dX4_row_20 (nrI _) ⟨rfl, rfl⟩
  · exact absurd ((okI_n hp (by omega)).symm.trans q_4) (by decide)
abbrev rm_c_X4_row_ok : Room := { frames := 6, cells := 0, slots := 0, locals := 130 }
set_option maxRecDepth 100000 in
set_option maxHeartbeats 8000000 in
theorem c_X4_row_ok (G : VC) (ad : AD) (s0 : Option Nat) (s1 : Option Nat) (x : SC) (r_ : Nat) (k_ : Nat) (vr : Nat → Nat) (vo : Nat → Nat) (vk : Nat → Nat) (vs : Nat → Nat) (vt : Nat → Nat) (vc : Nat → Nat) (vm : Nat → Nat) (ve : Nat → Nat) (vq : Nat → Nat) (vn : Nat) (hx : SInv x) (hp : r_ < 6) (hk : k_ < 5) : Ctr yX4_row wsX4_row rm_c_X4_row_ok G [.ref (ad 0 0), .int (nI (r_)), .int (nI (k_))] (bl [gsW G ad s0 s1, scW G (ad 1) x, vwW G (ad 3) vr vo vk vs vt vc vm ve vq vn]) (fun v9_ u9_ => ∃ zz : GZ, u9_ = (bl [gsW G ad s0 s1, scW G (ad 1) x, vwW G (ad 3) (rawF x) (opqF x) (kndF x) (splF x) (tknF x) (clnF x) (cmpF x) zz.1 zz.2.1 zz.2.2]) ∧ v9_ = some (.int (msk (fun j => decide (kndF x (8 * r_ + j) = k_)) 8)) ∧ (True)) := by
  refine Ctr.int (cc := cX4_row) (maxL := 5) (ret := (some .int)) (lv0 := [some (.ref (ad 0 0)), some (.int (nI (r_))), some (.int (nI (k_))), none, none]) (by decide) rfl rfl rfl (Nat.le_of_ble_eq_true rfl) rfl (fun A X E hend => ?_)
  refine V.iload_n E dX4_row_0 rfl rfl ?_
  refine V.callS E (c_X4_isRow G (nI (r_)) ) (bl [gsW G ad s0 s1, scW G (ad 1) x, vwW G (ad 3) vr vo vk vs vt vc vm ve vq vn]) [] gX4_row_X4_isRow rfl hd_X4_isRow ⟨⟨Nat.le_of_ble_eq_true rfl, Nat.le_of_ble_eq_true rfl⟩, Nat.le_of_ble_eq_true rfl, Nat.le_of_ble_eq_true rfl⟩ rfl (Nat.le_of_ble_eq_true rfl) rfl dX4_row_1 (List.Perm.refl _) (kc' := 0) (ks' := 0) rfl rfl (rwI (ws' := (bl [gsW G ad s0 s1, scW G (ad 1) x, vwW G (ad 3) vr vo vk vs vt vc vm ve vq vn])) (List.Perm.refl _) ?_)
  refine V.if_neB (tgt := 9) E dX4_row_4 (by decide) (fun q_4 => ?_) (fun q_4 => ?_)
  · refine V.iload_n E dX4_row_9 rfl rfl ?_
    refine V.if_ltN (tgt := 18) E ((by omega)) dX4_row_10 (by decide) ?_
    refine V.iload_n E dX4_row_13 rfl rfl ?_
    refine V.iconst (v := nI (5)) E dX4_row_14 (by decide) ?_
    refine V.icmp_ltN (tgt := 21) E (by omega) (by decide) dX4_row_15 (by decide) (fun q_15 => ?_) (fun q_15 => ?_)
    · refine V.aload_n E dX4_row_21 rfl rfl ?_
      refine V.getf (C := RX4) (T := TX4) (N := 7) (ref := "GlassSpill") E 0 4 2 (by decide +kernel) rfl rfl (by decide) (by decide +kernel) rfl rfl dX4_row_22 ?_
      refine V.aload_n E dX4_row_25 rfl rfl ?_
      refine V.getf (C := RX4) (T := TX4) (N := 7) (ref := "GlassSpill") E 0 4 0 (by decide +kernel) rfl rfl (by decide) (by decide +kernel) rfl rfl dX4_row_26 ?_
      refine V.callV (C := RX3) E (c_X3_show G (ad 3) vr vo vk vs vt vc vm ve vq vn (ad 1) x (hx)) (bl [gsW G ad s0 s1]) [] 7 3 rfl rfl rfl gX4_row_X3_show rfl ⟨rfl, hd_X3_show⟩ ⟨⟨Nat.le_of_ble_eq_true rfl, Nat.le_of_ble_eq_true rfl⟩, Nat.le_of_ble_eq_true rfl, Nat.le_of_ble_eq_true rfl⟩ rfl (Nat.le_of_ble_eq_true rfl) rfl dX4_row_29 (pBs (n := 3) [gsW G ad s0 s1, scW G (ad 1) x, vwW G (ad 3) vr vo vk vs vt vc vm ve vq vn] [2, 1] [0] rfl (by decide)) (kc' := 0) (ks' := 0) rfl rfl (rxV (ws' := fun (g_29 : GZ) => (bl [gsW G ad s0 s1, scW G (ad 1) x, vwW G (ad 3) (rawF x) (opqF x) (kndF x) (splF x) (tknF x) (clnF x) (cmpF x) g_29.1 g_29.2.1 g_29.2.2])) (fun g_29 => (pBs (n := 3) [gsW G ad s0 s1, scW G (ad 1) x, vwW G (ad 3) (rawF x) (opqF x) (kndF x) (splF x) (tknF x) (clnF x) (cmpF x) g_29.1 g_29.2.1 g_29.2.2] [2, 1] [0] rfl (by decide)).symm) (fun g_29 hf_29 => ?_))
      refine V.iconst (v := nI (0)) E dX4_row_32 (by decide) ?_
      refine V.istore_n (lv' := [some (.ref (ad 0 0)), some (.int (nI (r_))), some (.int (nI (k_))), some (.int (nI (0))), none]) E dX4_row_33 rfl (Nat.le_of_ble_eq_true rfl) rfl rfl ?_
      refine V.iconst (v := nI (0)) E dX4_row_34 (by decide) ?_
      refine V.istore (lv' := [some (.ref (ad 0 0)), some (.int (nI (r_))), some (.int (nI (k_))), some (.int (nI (0))), some (.int (nI (0)))]) E dX4_row_35 (Nat.le_of_ble_eq_true rfl) rfl rfl ?_
      refine V.loc (y := msk (fun j => decide (kndF x (8 * r_ + j) = k_)) 0) (lv' := [some (.ref (ad 0 0)), some (.int (nI (r_))), some (.int (nI (k_))), some (.int (msk (fun j => decide (kndF x (8 * r_ + j) = k_)) 0)), some (.int (nI (0)))]) 3 (rfl) rfl rfl ?_
      refine loopN (P := fun i37 => V G A X rm_c_X4_row_ok (bl [gsW G ad s0 s1, scW G (ad 1) x, vwW G (ad 3) (rawF x) (opqF x) (kndF x) (splF x) (tknF x) (clnF x) (cmpF x) g_29.1 g_29.2.1 g_29.2.2]) 0 0 37 [some (.ref (ad 0 0)), some (.int (nI (r_))), some (.int (nI (k_))), some (.int (msk (fun j => decide (kndF x (8 * r_ + j) = k_)) i37)), some (.int (nI (i37)))] []) 8 (fun i37 hi_37 ih_37 => ?_) 0 (Nat.zero_le _)
      refine V.iload E dX4_row_37 rfl ?_
      refine V.bipush (v := nI (8)) E dX4_row_39 (by decide) ?_
      refine V.icmp_geN (tgt := 76) E (by omega) (by omega) dX4_row_41 (by decide) (fun q_41 => ?_) (fun q_41 => ?_)
      · obtain rfl : i37 = 8 := by omega
        refine V.iload_n E dX4_row_76 rfl rfl ?_
        exact hend _ _ _ _ dX4_row_77 (nrI _) ⟨g_29, rfl, rfl, trivial⟩
      · refine V.aload_n E dX4_row_44 rfl rfl ?_
        refine V.getf (C := RX4) (T := TX4) (N := 7) (ref := "GlassSpill") E 0 4 2 (by decide +kernel) rfl rfl (by decide) (by decide +kernel) rfl rfl dX4_row_45 ?_
        refine V.getf (C := RX3) (T := TX3) (N := 10) (ref := "GlassSpill$View") E 7 3 2 (by decide +kernel) rfl rfl (by decide) (by decide +kernel) rfl rfl dX4_row_48 ?_
        refine V.bipush (v := nI (8)) E dX4_row_51 (by decide) ?_
        refine V.iload_n E dX4_row_53 rfl rfl ?_
        refine V.imulN E  dX4_row_54 ?_
        refine V.iload E dX4_row_55 rfl ?_
        refine V.iaddN E  dX4_row_57 ?_
        refine V.ialdN (v := nI ((kndF x) ((8 * r_) + i37))) E 10 rfl (by omega) (by decide) (rfl) dX4_row_58 ?_
        refine V.iload_n E dX4_row_59 rfl rfl ?_
        refine V.icmp_neN (tgt := 70) E (Nat.lt_of_le_of_lt (kndF_le x _) (by decide)) (by omega) dX4_row_60 (by decide) (fun q_60 => ?_) (fun q_60 => ?_)
        · refine V.iincN (lv' := [some (.ref (ad 0 0)), some (.int (nI (r_))), some (.int (nI (k_))), some (.int (msk (fun j => decide (kndF x (8 * r_ + j) = k_)) i37)), some (.int (nI (i37 + 1)))]) E dX4_row_70 rfl (Nat.le_of_ble_eq_true rfl) rfl rfl ?_
          refine V.goto (tgt := 37) E dX4_row_73 (by decide) ?_
          refine V.loc (y := msk (fun j => decide (kndF x (8 * r_ + j) = k_)) (i37 + 1)) (lv' := [some (.ref (ad 0 0)), some (.int (nI (r_))), some (.int (nI (k_))), some (.int (msk (fun j => decide (kndF x (8 * r_ + j) = k_)) (i37 + 1))), some (.int (nI (i37 + 1)))]) 3 (by rw [msk, if_neg (by simp [q_60])]) rfl rfl ?_
          exact ih_37 (by omega)
        · refine V.iload_n E dX4_row_63 rfl rfl ?_
          refine V.iconst (v := nI (1)) E dX4_row_64 (by decide) ?_
          refine V.iload E dX4_row_65 rfl ?_
          refine V.ishlN E (by have : 2 ^ i37 ≤ 2 ^ 8 := Nat.pow_le_pow_right (by decide) (by omega); omega) (by omega) dX4_row_67 ?_
          refine V.ior E dX4_row_68 ?_
          refine V.istore_n (lv' := [some (.ref (ad 0 0)), some (.int (nI (r_))), some (.int (nI (k_))), some (.int ((msk (fun j => decide (kndF x (8 * r_ + j) = k_)) i37) ||| (nI (1 * 2 ^ i37)))), some (.int (nI (i37)))]) E dX4_row_69 rfl (Nat.le_of_ble_eq_true rfl) rfl rfl ?_
          refine V.iincN (lv' := [some (.ref (ad 0 0)), some (.int (nI (r_))), some (.int (nI (k_))), some (.int ((msk (fun j => decide (kndF x (8 * r_ + j) = k_)) i37) ||| (nI (1 * 2 ^ i37)))), some (.int (nI (i37 + 1)))]) E dX4_row_70 rfl (Nat.le_of_ble_eq_true rfl) rfl rfl ?_
          refine V.goto (tgt := 37) E dX4_row_73 (by decide) ?_
          refine V.loc (y := msk (fun j => decide (kndF x (8 * r_ + j) = k_)) (i37 + 1)) (lv' := [some (.ref (ad 0 0)), some (.int (nI (r_))), some (.int (nI (k_))), some (.int (msk (fun j => decide (kndF x (8 * r_ + j) = k_)) (i37 + 1))), some (.int (nI (i37 + 1)))]) 3 (by rw [msk, if_pos (decide_eq_true q_60)]) rfl rfl ?_
          exact ih_37 (by omega)
    · exact absurd hk (by omega)
  · exact absurd ((okI_n hp (by omega)).symm.trans q_4) (by decide)
abbrev rm_c_X4_save_bad : Room := { frames := 1, cells := 0, slots := 0, locals := 20 }
theorem hd_X4_save : yX4_save.cls ≠ "java/lang/invoke/MethodHandle" ∧ yX4_save.cls ≠ "java/lang/invoke/VarHandle" ∧ (parseMethodDescriptor yX4_save.desc).map (fun d => d.parameters.length) = some 1 := by decide +kernel
set_option maxRecDepth 100000 in
set_option maxHeartbeats 8000000 in
theorem c_X4_save_bad (G : VC) (ad : AD) (s0 : Option Nat) (s1 : Option Nat) (x : SC) (s_ : Int32) (hb : okI 2 s_ = false) : Ctr yX4_save wsX4_save rm_c_X4_save_bad G [.ref (ad 0 0), .int (s_)] (bl [gsW G ad s0 s1, scW G (ad 1) x]) (fun v9_ u9_ => u9_ = (bl [gsW G ad s0 s1, scW G (ad 1) x]) ∧ v9_ = some (.int ((-2 : Int32)))) := by
  refine Ctr.int (cc := cX4_save) (maxL := 3) (ret := (some .int)) (lv0 := [some (.ref (ad 0 0)), some (.int (s_)), none]) (by decide) rfl rfl rfl (Nat.le_of_ble_eq_true rfl) rfl (fun A X E hend => ?_)
  refine V.iload_n E dX4_save_0 rfl rfl ?_
  refine V.callS E (c_X4_isSlot G s_ ) (bl [gsW G ad s0 s1, scW G (ad 1) x]) [] gX4_save_X4_isSlot rfl hd_X4_isSlot ⟨⟨Nat.le_of_ble_eq_true rfl, Nat.le_of_ble_eq_true rfl⟩, Nat.le_of_ble_eq_true rfl, Nat.le_of_ble_eq_true rfl⟩ rfl (Nat.le_of_ble_eq_true rfl) rfl dX4_save_1 (List.Perm.refl _) (kc' := 0) (ks' := 0) rfl rfl (rwI (ws' := (bl [gsW G ad s0 s1, scW G (ad 1) x])) (List.Perm.refl _) ?_)
  refine V.if_neB (tgt := 10) E dX4_save_4 (by decide) (fun q_4 => ?_) (fun q_4 => ?_)
  · exact absurd (hb.symm.trans q_4) (by decide)
  · refine V.bipush (v := (-2 : Int32)) E dX4_save_7 (by decide) ?_
    exact hend _ _ _ _ dX4_save_9 (nrI _) ⟨rfl, rfl⟩
abbrev rm_c_X4_restore_bad : Room := { frames := 1, cells := 0, slots := 0, locals := 20 }
theorem hd_X4_restore : yX4_restore.cls ≠ "java/lang/invoke/MethodHandle" ∧ yX4_restore.cls ≠ "java/lang/invoke/VarHandle" ∧ (parseMethodDescriptor yX4_restore.desc).map (fun d => d.parameters.length) = some 1 := by decide +kernel
set_option maxRecDepth 100000 in
set_option maxHeartbeats 8000000 in
theorem c_X4_restore_bad (G : VC) (ad : AD) (s0 : Option Nat) (s1 : Option Nat) (x : SC) (s_ : Int32) (hb : okI 2 s_ = false) : Ctr yX4_restore wsX4_restore rm_c_X4_restore_bad G [.ref (ad 0 0), .int (s_)] (bl [gsW G ad s0 s1, scW G (ad 1) x]) (fun v9_ u9_ => u9_ = (bl [gsW G ad s0 s1, scW G (ad 1) x]) ∧ v9_ = some (.int ((-2 : Int32)))) := by
  refine Ctr.int (cc := cX4_restore) (maxL := 3) (ret := (some .int)) (lv0 := [some (.ref (ad 0 0)), some (.int (s_)), none]) (by decide) rfl rfl rfl (Nat.le_of_ble_eq_true rfl) rfl (fun A X E hend => ?_)
  refine V.iload_n E dX4_restore_0 rfl rfl ?_
  refine V.callS E (c_X4_isSlot G s_ ) (bl [gsW G ad s0 s1, scW G (ad 1) x]) [] gX4_restore_X4_isSlot rfl hd_X4_isSlot ⟨⟨Nat.le_of_ble_eq_true rfl, Nat.le_of_ble_eq_true rfl⟩, Nat.le_of_ble_eq_true rfl, Nat.le_of_ble_eq_true rfl⟩ rfl (Nat.le_of_ble_eq_true rfl) rfl dX4_restore_1 (List.Perm.refl _) (kc' := 0) (ks' := 0) rfl rfl (rwI (ws' := (bl [gsW G ad s0 s1, scW G (ad 1) x])) (List.Perm.refl _) ?_)
  refine V.if_neB (tgt := 10) E dX4_restore_4 (by decide) (fun q_4 => ?_) (fun q_4 => ?_)
  · exact absurd (hb.symm.trans q_4) (by decide)
  · refine V.bipush (v := (-2 : Int32)) E dX4_restore_7 (by decide) ?_
    exact hend _ _ _ _ dX4_restore_9 (nrI _) ⟨rfl, rfl⟩
abbrev rm_c_X4_save_old_0 : Room := { frames := 2, cells := 0, slots := 0, locals := 48 }
set_option maxRecDepth 100000 in
set_option maxHeartbeats 8000000 in
theorem c_X4_save_old_0 (G : VC) (ad : AD) (s1 : Option Nat) (x : SC) (sb : Nat → Nat) (y : SC) (hx : SInv x) : Ctr yX4_save wsX4_save rm_c_X4_save_old_0 G [.ref (ad 0 0), .int (nI (0))] (bl [gsW G ad (some (sb 0)) s1, scW G (ad 1) x, scW G sb y]) (fun v9_ u9_ => u9_ = (bl [gsW G ad (some (sb 0)) s1, scW G (ad 1) x, scW G sb x]) ∧ v9_ = some (.int (nI (sumN 48 (scG x))))) := by
  refine Ctr.int (cc := cX4_save) (maxL := 3) (ret := (some .int)) (lv0 := [some (.ref (ad 0 0)), some (.int (nI (0))), none]) (by decide) rfl rfl rfl (Nat.le_of_ble_eq_true rfl) rfl (fun A X E hend => ?_)
  refine V.iload_n E dX4_save_0 rfl rfl ?_
  refine V.callS E (c_X4_isSlot G (nI (0)) ) (bl [gsW G ad (some (sb 0)) s1, scW G (ad 1) x, scW G sb y]) [] gX4_save_X4_isSlot rfl hd_X4_isSlot ⟨⟨Nat.le_of_ble_eq_true rfl, Nat.le_of_ble_eq_true rfl⟩, Nat.le_of_ble_eq_true rfl, Nat.le_of_ble_eq_true rfl⟩ rfl (Nat.le_of_ble_eq_true rfl) rfl dX4_save_1 (List.Perm.refl _) (kc' := 0) (ks' := 0) rfl rfl (rwI (ws' := (bl [gsW G ad (some (sb 0)) s1, scW G (ad 1) x, scW G sb y])) (List.Perm.refl _) ?_)
  refine V.if_neB (tgt := 10) E dX4_save_4 (by decide) (fun q_4 => ?_) (fun q_4 => ?_)
  · refine V.aload_n E dX4_save_10 rfl rfl ?_
    refine V.getf (C := RX4) (T := TX4) (N := 7) (ref := "GlassSpill") E 0 4 6 (by decide +kernel) rfl rfl (by decide) (by decide +kernel) rfl rfl dX4_save_11 ?_
    refine V.iload_n E dX4_save_14 rfl rfl ?_
    refine V.aaldN (v := .ref (sb 0)) E 1 rfl (by decide) (by decide) (rfl) dX4_save_15 ?_
    refine V.astore_n (lv' := [some (.ref (ad 0 0)), some (.int (nI (0))), some (.ref (sb 0))]) E dX4_save_16 rfl (Nat.le_of_ble_eq_true rfl) rfl rfl ?_
    refine V.aload_n E dX4_save_17 rfl rfl ?_
    refine V.ifnonnull (tgt := 36) E dX4_save_18 (by decide) ?_
    refine V.aload_n E dX4_save_36 rfl rfl ?_
    refine V.aload_n E dX4_save_37 rfl rfl ?_
    refine V.getf (C := RX4) (T := TX4) (N := 7) (ref := "GlassSpill") E 0 4 0 (by decide +kernel) rfl rfl (by decide) (by decide +kernel) rfl rfl dX4_save_38 ?_
    refine V.callV (C := RX2) E (c_X2_copyFrom G sb (ad 1) y x (hx)) (bl [gsW G ad (some (sb 0)) s1]) [] 7 2 rfl rfl rfl gX4_save_X2_copyFrom rfl ⟨rfl, hd_X2_copyFrom⟩ ⟨⟨Nat.le_of_ble_eq_true rfl, Nat.le_of_ble_eq_true rfl⟩, Nat.le_of_ble_eq_true rfl, Nat.le_of_ble_eq_true rfl⟩ rfl (Nat.le_of_ble_eq_true rfl) rfl dX4_save_41 (pBs (n := 3) [gsW G ad (some (sb 0)) s1, scW G (ad 1) x, scW G sb y] [2, 1] [0] rfl (by decide)) (kc' := 0) (ks' := 0) rfl rfl (rwV (ws' := (bl [gsW G ad (some (sb 0)) s1, scW G (ad 1) x, scW G sb x])) (pBs (n := 3) [gsW G ad (some (sb 0)) s1, scW G (ad 1) x, scW G sb x] [2, 1] [0] rfl (by decide)).symm ?_)
    refine V.aload_n E dX4_save_44 rfl rfl ?_
    refine V.getf (C := RX4) (T := TX4) (N := 7) (ref := "GlassSpill") E 0 4 0 (by decide +kernel) rfl rfl (by decide) (by decide +kernel) rfl rfl dX4_save_45 ?_
    refine V.callV (C := RX2) E (c_X2_marked G (ad 1) x (hx)) (bl [gsW G ad (some (sb 0)) s1, scW G sb x]) [] 2 2 rfl rfl rfl gX4_save_X2_marked rfl ⟨rfl, hd_X2_marked⟩ ⟨⟨Nat.le_of_ble_eq_true rfl, Nat.le_of_ble_eq_true rfl⟩, Nat.le_of_ble_eq_true rfl, Nat.le_of_ble_eq_true rfl⟩ rfl (Nat.le_of_ble_eq_true rfl) rfl dX4_save_48 (pBs (n := 3) [gsW G ad (some (sb 0)) s1, scW G (ad 1) x, scW G sb x] [1] [0, 2] rfl (by decide)) (kc' := 0) (ks' := 0) rfl rfl (rwI (ws' := (bl [gsW G ad (some (sb 0)) s1, scW G (ad 1) x, scW G sb x])) (pBs (n := 3) [gsW G ad (some (sb 0)) s1, scW G (ad 1) x, scW G sb x] [1] [0, 2] rfl (by decide)).symm ?_)
    exact hend _ _ _ _ dX4_save_51 (nrI _) ⟨rfl, rfl⟩
  · exact absurd ((okI_n (show 0 < 2 by decide) (by omega)).symm.trans q_4) (by decide)
abbrev rm_c_X4_save_new_0 : Room := { frames := 2, cells := 5, slots := 155, locals := 48 }
set_option maxRecDepth 100000 in
set_option maxHeartbeats 8000000 in
theorem c_X4_save_new_0 (G : VC) (ad : AD) (s1 : Option Nat) (x : SC) (hx : SInv x) : Ctr yX4_save wsX4_save rm_c_X4_save_new_0 G [.ref (ad 0 0), .int (nI (0))] (bl [gsW G ad none s1, scW G (ad 1) x]) (fun v9_ u9_ => ∃ zz : Nat → Nat, u9_ = (bl [gsW G ad (some (zz 0)) s1, scW G (ad 1) x, scW G zz x]) ∧ v9_ = some (.int (nI (sumN 48 (scG x)))) ∧ (True)) := by
  refine Ctr.int (cc := cX4_save) (maxL := 3) (ret := (some .int)) (lv0 := [some (.ref (ad 0 0)), some (.int (nI (0))), none]) (by decide) rfl rfl rfl (Nat.le_of_ble_eq_true rfl) rfl (fun A X E hend => ?_)
  refine V.iload_n E dX4_save_0 rfl rfl ?_
  refine V.callS E (c_X4_isSlot G (nI (0)) ) (bl [gsW G ad none s1, scW G (ad 1) x]) [] gX4_save_X4_isSlot rfl hd_X4_isSlot ⟨⟨Nat.le_of_ble_eq_true rfl, Nat.le_of_ble_eq_true rfl⟩, Nat.le_of_ble_eq_true rfl, Nat.le_of_ble_eq_true rfl⟩ rfl (Nat.le_of_ble_eq_true rfl) rfl dX4_save_1 (List.Perm.refl _) (kc' := 0) (ks' := 0) rfl rfl (rwI (ws' := (bl [gsW G ad none s1, scW G (ad 1) x])) (List.Perm.refl _) ?_)
  refine V.if_neB (tgt := 10) E dX4_save_4 (by decide) (fun q_4 => ?_) (fun q_4 => ?_)
  · refine V.aload_n E dX4_save_10 rfl rfl ?_
    refine V.getf (C := RX4) (T := TX4) (N := 7) (ref := "GlassSpill") E 0 4 6 (by decide +kernel) rfl rfl (by decide) (by decide +kernel) rfl rfl dX4_save_11 ?_
    refine V.iload_n E dX4_save_14 rfl rfl ?_
    refine V.aaldN (v := .null) E 1 rfl (by decide) (by decide) (rfl) dX4_save_15 ?_
    refine V.astore_nN (lv' := [some (.ref (ad 0 0)), some (.int (nI (0))), some (.null)]) E dX4_save_16 rfl (Nat.le_of_ble_eq_true rfl) rfl rfl ?_
    refine V.aload_nN E dX4_save_17 rfl rfl ?_
    refine V.ifnonnullN E dX4_save_18 ?_
    refine V.newB (bs := [gsW G ad none s1, scW G (ad 1) x]) (fs := [.null, .null, .null, .null, .int (nI (0))]) E 2 (by decide +kernel) tyX2_ok rfl (by decide +kernel) (by decide +kernel) (by decide +kernel) (by decide) ⟨Nat.le_of_ble_eq_true rfl, Nat.le_of_ble_eq_true rfl⟩ dX4_save_21 (fun n_21 => ?_)
    show V G A X rm_c_X4_save_new_0 (bl [gsW G ad none s1, scW G (ad 1) x, [(n_21, kO 2 [.null, .null, .null, .null, .int (nI (0))])]]) 1 5 24 [some (.ref (ad 0 0)), some (.int (nI (0))), some (.null)] [.ref (n_21)]
    refine V.dup E dX4_save_24 rfl ?_
    refine V.callI E (c_X2_init G n_21 ) (bl [gsW G ad none s1, scW G (ad 1) x]) [.ref (n_21)] gX4_save_X2_init rfl (by decide +kernel) (by decide +kernel) (by decide +kernel) rfl hd_X2_init ⟨⟨Nat.le_of_ble_eq_true rfl, Nat.le_of_ble_eq_true rfl⟩, Nat.le_of_ble_eq_true rfl, Nat.le_of_ble_eq_true rfl⟩ rfl (Nat.le_of_ble_eq_true rfl) rfl dX4_save_25 (pBs (n := 3) [gsW G ad none s1, scW G (ad 1) x, [(n_21, kO 2 [.null, .null, .null, .null, .int (nI (0))])]] [2] [0, 1] rfl (by decide)) (kc' := 5) (ks' := 155) rfl rfl (rxV (ws' := fun (g_25 : Nat → Nat) => (bl [gsW G ad none s1, scW G (ad 1) x, scW G g_25 sc00])) (fun g_25 => (pBs (n := 3) [gsW G ad none s1, scW G (ad 1) x, scW G g_25 sc00] [2] [0, 1] rfl (by decide)).symm) (fun g_25 hf_25 => ?_))
    subst hf_25
    refine V.astore_n (lv' := [some (.ref (ad 0 0)), some (.int (nI (0))), some (.ref (g_25 0))]) E dX4_save_28 rfl (Nat.le_of_ble_eq_true rfl) rfl rfl ?_
    refine V.aload_n E dX4_save_29 rfl rfl ?_
    refine V.getf (C := RX4) (T := TX4) (N := 7) (ref := "GlassSpill") E 0 4 6 (by decide +kernel) rfl rfl (by decide) (by decide +kernel) rfl rfl dX4_save_30 ?_
    refine V.iload_n E dX4_save_33 rfl rfl ?_
    refine V.aload_n E dX4_save_34 rfl rfl ?_
    refine V.aastN (f' := fq (some (g_25 0)) s1) (ws' := (bl [gsW G ad (some (g_25 0)) s1, scW G (ad 1) x, scW G g_25 sc00])) E 1 7 rfl rfl (by decide) (by decide) dX4_save_35 (fq_u0) rfl ?_
    refine V.aload_n E dX4_save_36 rfl rfl ?_
    refine V.aload_n E dX4_save_37 rfl rfl ?_
    refine V.getf (C := RX4) (T := TX4) (N := 7) (ref := "GlassSpill") E 0 4 0 (by decide +kernel) rfl rfl (by decide) (by decide +kernel) rfl rfl dX4_save_38 ?_
    refine V.callV (C := RX2) E (c_X2_copyFrom G g_25 (ad 1) sc00 x (hx)) (bl [gsW G ad (some (g_25 0)) s1]) [] 7 2 rfl rfl rfl gX4_save_X2_copyFrom rfl ⟨rfl, hd_X2_copyFrom⟩ ⟨⟨Nat.le_of_ble_eq_true rfl, Nat.le_of_ble_eq_true rfl⟩, Nat.le_of_ble_eq_true rfl, Nat.le_of_ble_eq_true rfl⟩ rfl (Nat.le_of_ble_eq_true rfl) rfl dX4_save_41 (pBs (n := 3) [gsW G ad (some (g_25 0)) s1, scW G (ad 1) x, scW G g_25 sc00] [2, 1] [0] rfl (by decide)) (kc' := 5) (ks' := 155) rfl rfl (rwV (ws' := (bl [gsW G ad (some (g_25 0)) s1, scW G (ad 1) x, scW G g_25 x])) (pBs (n := 3) [gsW G ad (some (g_25 0)) s1, scW G (ad 1) x, scW G g_25 x] [2, 1] [0] rfl (by decide)).symm ?_)
    refine V.aload_n E dX4_save_44 rfl rfl ?_
    refine V.getf (C := RX4) (T := TX4) (N := 7) (ref := "GlassSpill") E 0 4 0 (by decide +kernel) rfl rfl (by decide) (by decide +kernel) rfl rfl dX4_save_45 ?_
    refine V.callV (C := RX2) E (c_X2_marked G (ad 1) x (hx)) (bl [gsW G ad (some (g_25 0)) s1, scW G g_25 x]) [] 2 2 rfl rfl rfl gX4_save_X2_marked rfl ⟨rfl, hd_X2_marked⟩ ⟨⟨Nat.le_of_ble_eq_true rfl, Nat.le_of_ble_eq_true rfl⟩, Nat.le_of_ble_eq_true rfl, Nat.le_of_ble_eq_true rfl⟩ rfl (Nat.le_of_ble_eq_true rfl) rfl dX4_save_48 (pBs (n := 3) [gsW G ad (some (g_25 0)) s1, scW G (ad 1) x, scW G g_25 x] [1] [0, 2] rfl (by decide)) (kc' := 5) (ks' := 155) rfl rfl (rwI (ws' := (bl [gsW G ad (some (g_25 0)) s1, scW G (ad 1) x, scW G g_25 x])) (pBs (n := 3) [gsW G ad (some (g_25 0)) s1, scW G (ad 1) x, scW G g_25 x] [1] [0, 2] rfl (by decide)).symm ?_)
    exact hend _ _ _ _ dX4_save_51 (nrI _) ⟨g_25, rfl, rfl, trivial⟩
  · exact absurd ((okI_n (show 0 < 2 by decide) (by omega)).symm.trans q_4) (by decide)
abbrev rm_c_X4_restore_none_0 : Room := { frames := 1, cells := 0, slots := 0, locals := 20 }
set_option maxRecDepth 100000 in
set_option maxHeartbeats 8000000 in
theorem c_X4_restore_none_0 (G : VC) (ad : AD) (s1 : Option Nat) (x : SC) : Ctr yX4_restore wsX4_restore rm_c_X4_restore_none_0 G [.ref (ad 0 0), .int (nI (0))] (bl [gsW G ad none s1, scW G (ad 1) x]) (fun v9_ u9_ => u9_ = (bl [gsW G ad none s1, scW G (ad 1) x]) ∧ v9_ = some (.int ((-5 : Int32)))) := by
  refine Ctr.int (cc := cX4_restore) (maxL := 3) (ret := (some .int)) (lv0 := [some (.ref (ad 0 0)), some (.int (nI (0))), none]) (by decide) rfl rfl rfl (Nat.le_of_ble_eq_true rfl) rfl (fun A X E hend => ?_)
  refine V.iload_n E dX4_restore_0 rfl rfl ?_
  refine V.callS E (c_X4_isSlot G (nI (0)) ) (bl [gsW G ad none s1, scW G (ad 1) x]) [] gX4_restore_X4_isSlot rfl hd_X4_isSlot ⟨⟨Nat.le_of_ble_eq_true rfl, Nat.le_of_ble_eq_true rfl⟩, Nat.le_of_ble_eq_true rfl, Nat.le_of_ble_eq_true rfl⟩ rfl (Nat.le_of_ble_eq_true rfl) rfl dX4_restore_1 (List.Perm.refl _) (kc' := 0) (ks' := 0) rfl rfl (rwI (ws' := (bl [gsW G ad none s1, scW G (ad 1) x])) (List.Perm.refl _) ?_)
  refine V.if_neB (tgt := 10) E dX4_restore_4 (by decide) (fun q_4 => ?_) (fun q_4 => ?_)
  · refine V.aload_n E dX4_restore_10 rfl rfl ?_
    refine V.getf (C := RX4) (T := TX4) (N := 7) (ref := "GlassSpill") E 0 4 6 (by decide +kernel) rfl rfl (by decide) (by decide +kernel) rfl rfl dX4_restore_11 ?_
    refine V.iload_n E dX4_restore_14 rfl rfl ?_
    refine V.aaldN (v := .null) E 1 rfl (by decide) (by decide) (rfl) dX4_restore_15 ?_
    refine V.astore_nN (lv' := [some (.ref (ad 0 0)), some (.int (nI (0))), some (.null)]) E dX4_restore_16 rfl (Nat.le_of_ble_eq_true rfl) rfl rfl ?_
    refine V.aload_nN E dX4_restore_17 rfl rfl ?_
    refine V.ifnonnullN E dX4_restore_18 ?_
    refine V.bipush (v := (-5 : Int32)) E dX4_restore_21 (by decide) ?_
    exact hend _ _ _ _ dX4_restore_23 (nrI _) ⟨rfl, rfl⟩
  · exact absurd ((okI_n (show 0 < 2 by decide) (by omega)).symm.trans q_4) (by decide)
abbrev rm_c_X4_restore_ok_0 : Room := { frames := 3, cells := 0, slots := 0, locals := 70 }
set_option maxRecDepth 100000 in
set_option maxHeartbeats 8000000 in
theorem c_X4_restore_ok_0 (G : VC) (ad : AD) (s1 : Option Nat) (x : SC) (ha : AD) (rg : Nat → SC) (o : Nat) (n : Nat) (sb : Nat → Nat) (y : SC) (ho6 : o < 6) (hn6 : n ≤ 6) (hx : SInv x) (hy : SInv y) : Ctr yX4_restore wsX4_restore rm_c_X4_restore_ok_0 G [.ref (ad 0 0), .int (nI (0))] (bl [gsW G ad (some (sb 0)) s1, scW G (ad 1) x, hiW G (ad 6) ha o n, scW G (ha 0) (rg 0), scW G (ha 1) (rg 1), scW G (ha 2) (rg 2), scW G (ha 3) (rg 3), scW G (ha 4) (rg 4), scW G (ha 5) (rg 5), scW G sb y]) (fun v9_ u9_ => u9_ = (bl [gsW G ad (some (sb 0)) s1, scW G (ad 1) y, hiW G (ad 6) ha (onN o n) (hlN n), scW G (ha 0) (rgu rg ((o + n) % 6) x 0), scW G (ha 1) (rgu rg ((o + n) % 6) x 1), scW G (ha 2) (rgu rg ((o + n) % 6) x 2), scW G (ha 3) (rgu rg ((o + n) % 6) x 3), scW G (ha 4) (rgu rg ((o + n) % 6) x 4), scW G (ha 5) (rgu rg ((o + n) % 6) x 5), scW G sb y]) ∧ v9_ = some (.int (nI (sumN 48 (scG y))))) := by
  refine Ctr.int (cc := cX4_restore) (maxL := 3) (ret := (some .int)) (lv0 := [some (.ref (ad 0 0)), some (.int (nI (0))), none]) (by decide) rfl rfl rfl (Nat.le_of_ble_eq_true rfl) rfl (fun A X E hend => ?_)
  refine V.iload_n E dX4_restore_0 rfl rfl ?_
  refine V.callS E (c_X4_isSlot G (nI (0)) ) (bl [gsW G ad (some (sb 0)) s1, scW G (ad 1) x, hiW G (ad 6) ha o n, scW G (ha 0) (rg 0), scW G (ha 1) (rg 1), scW G (ha 2) (rg 2), scW G (ha 3) (rg 3), scW G (ha 4) (rg 4), scW G (ha 5) (rg 5), scW G sb y]) [] gX4_restore_X4_isSlot rfl hd_X4_isSlot ⟨⟨Nat.le_of_ble_eq_true rfl, Nat.le_of_ble_eq_true rfl⟩, Nat.le_of_ble_eq_true rfl, Nat.le_of_ble_eq_true rfl⟩ rfl (Nat.le_of_ble_eq_true rfl) rfl dX4_restore_1 (List.Perm.refl _) (kc' := 0) (ks' := 0) rfl rfl (rwI (ws' := (bl [gsW G ad (some (sb 0)) s1, scW G (ad 1) x, hiW G (ad 6) ha o n, scW G (ha 0) (rg 0), scW G (ha 1) (rg 1), scW G (ha 2) (rg 2), scW G (ha 3) (rg 3), scW G (ha 4) (rg 4), scW G (ha 5) (rg 5), scW G sb y])) (List.Perm.refl _) ?_)
  refine V.if_neB (tgt := 10) E dX4_restore_4 (by decide) (fun q_4 => ?_) (fun q_4 => ?_)
  · refine V.aload_n E dX4_restore_10 rfl rfl ?_
    refine V.getf (C := RX4) (T := TX4) (N := 7) (ref := "GlassSpill") E 0 4 6 (by decide +kernel) rfl rfl (by decide) (by decide +kernel) rfl rfl dX4_restore_11 ?_
    refine V.iload_n E dX4_restore_14 rfl rfl ?_
    refine V.aaldN (v := .ref (sb 0)) E 1 rfl (by decide) (by decide) (rfl) dX4_restore_15 ?_
    refine V.astore_n (lv' := [some (.ref (ad 0 0)), some (.int (nI (0))), some (.ref (sb 0))]) E dX4_restore_16 rfl (Nat.le_of_ble_eq_true rfl) rfl rfl ?_
    refine V.aload_n E dX4_restore_17 rfl rfl ?_
    refine V.ifnonnull (tgt := 24) E dX4_restore_18 (by decide) ?_
    refine V.aload_n E dX4_restore_24 rfl rfl ?_
    refine V.getf (C := RX4) (T := TX4) (N := 7) (ref := "GlassSpill") E 0 4 5 (by decide +kernel) rfl rfl (by decide) (by decide +kernel) rfl rfl dX4_restore_25 ?_
    refine V.aload_n E dX4_restore_28 rfl rfl ?_
    refine V.getf (C := RX4) (T := TX4) (N := 7) (ref := "GlassSpill") E 0 4 0 (by decide +kernel) rfl rfl (by decide) (by decide +kernel) rfl rfl dX4_restore_29 ?_
    refine V.callV (C := RX0) E (c_X0_remember G (ad 6) ha rg o n (ad 1) x (ho6) (hn6) (hx)) (bl [gsW G ad (some (sb 0)) s1, scW G sb y]) [] 7 0 rfl rfl rfl gX4_restore_X0_remember rfl ⟨rfl, hd_X0_remember⟩ ⟨⟨Nat.le_of_ble_eq_true rfl, Nat.le_of_ble_eq_true rfl⟩, Nat.le_of_ble_eq_true rfl, Nat.le_of_ble_eq_true rfl⟩ rfl (Nat.le_of_ble_eq_true rfl) rfl dX4_restore_32 (pBs (n := 10) [gsW G ad (some (sb 0)) s1, scW G (ad 1) x, hiW G (ad 6) ha o n, scW G (ha 0) (rg 0), scW G (ha 1) (rg 1), scW G (ha 2) (rg 2), scW G (ha 3) (rg 3), scW G (ha 4) (rg 4), scW G (ha 5) (rg 5), scW G sb y] [2, 3, 4, 5, 6, 7, 8, 1] [0, 9] rfl (by decide)) (kc' := 0) (ks' := 0) rfl rfl (rwV (ws' := (bl [gsW G ad (some (sb 0)) s1, scW G (ad 1) x, hiW G (ad 6) ha (onN o n) (hlN n), scW G (ha 0) (rgu rg ((o + n) % 6) x 0), scW G (ha 1) (rgu rg ((o + n) % 6) x 1), scW G (ha 2) (rgu rg ((o + n) % 6) x 2), scW G (ha 3) (rgu rg ((o + n) % 6) x 3), scW G (ha 4) (rgu rg ((o + n) % 6) x 4), scW G (ha 5) (rgu rg ((o + n) % 6) x 5), scW G sb y])) (pBs (n := 10) [gsW G ad (some (sb 0)) s1, scW G (ad 1) x, hiW G (ad 6) ha (onN o n) (hlN n), scW G (ha 0) (rgu rg ((o + n) % 6) x 0), scW G (ha 1) (rgu rg ((o + n) % 6) x 1), scW G (ha 2) (rgu rg ((o + n) % 6) x 2), scW G (ha 3) (rgu rg ((o + n) % 6) x 3), scW G (ha 4) (rgu rg ((o + n) % 6) x 4), scW G (ha 5) (rgu rg ((o + n) % 6) x 5), scW G sb y] [2, 3, 4, 5, 6, 7, 8, 1] [0, 9] rfl (by decide)).symm ?_)
    refine V.aload_n E dX4_restore_35 rfl rfl ?_
    refine V.getf (C := RX4) (T := TX4) (N := 7) (ref := "GlassSpill") E 0 4 0 (by decide +kernel) rfl rfl (by decide) (by decide +kernel) rfl rfl dX4_restore_36 ?_
    refine V.aload_n E dX4_restore_39 rfl rfl ?_
    refine V.callV (C := RX2) E (c_X2_copyFrom G (ad 1) sb x y (hy)) (bl [gsW G ad (some (sb 0)) s1, hiW G (ad 6) ha (onN o n) (hlN n), scW G (ha 0) (rgu rg ((o + n) % 6) x 0), scW G (ha 1) (rgu rg ((o + n) % 6) x 1), scW G (ha 2) (rgu rg ((o + n) % 6) x 2), scW G (ha 3) (rgu rg ((o + n) % 6) x 3), scW G (ha 4) (rgu rg ((o + n) % 6) x 4), scW G (ha 5) (rgu rg ((o + n) % 6) x 5)]) [] 2 2 rfl rfl rfl gX4_restore_X2_copyFrom rfl ⟨rfl, hd_X2_copyFrom⟩ ⟨⟨Nat.le_of_ble_eq_true rfl, Nat.le_of_ble_eq_true rfl⟩, Nat.le_of_ble_eq_true rfl, Nat.le_of_ble_eq_true rfl⟩ rfl (Nat.le_of_ble_eq_true rfl) rfl dX4_restore_40 (pBs (n := 10) [gsW G ad (some (sb 0)) s1, scW G (ad 1) x, hiW G (ad 6) ha (onN o n) (hlN n), scW G (ha 0) (rgu rg ((o + n) % 6) x 0), scW G (ha 1) (rgu rg ((o + n) % 6) x 1), scW G (ha 2) (rgu rg ((o + n) % 6) x 2), scW G (ha 3) (rgu rg ((o + n) % 6) x 3), scW G (ha 4) (rgu rg ((o + n) % 6) x 4), scW G (ha 5) (rgu rg ((o + n) % 6) x 5), scW G sb y] [1, 9] [0, 2, 3, 4, 5, 6, 7, 8] rfl (by decide)) (kc' := 0) (ks' := 0) rfl rfl (rwV (ws' := (bl [gsW G ad (some (sb 0)) s1, scW G (ad 1) y, hiW G (ad 6) ha (onN o n) (hlN n), scW G (ha 0) (rgu rg ((o + n) % 6) x 0), scW G (ha 1) (rgu rg ((o + n) % 6) x 1), scW G (ha 2) (rgu rg ((o + n) % 6) x 2), scW G (ha 3) (rgu rg ((o + n) % 6) x 3), scW G (ha 4) (rgu rg ((o + n) % 6) x 4), scW G (ha 5) (rgu rg ((o + n) % 6) x 5), scW G sb y])) (pBs (n := 10) [gsW G ad (some (sb 0)) s1, scW G (ad 1) y, hiW G (ad 6) ha (onN o n) (hlN n), scW G (ha 0) (rgu rg ((o + n) % 6) x 0), scW G (ha 1) (rgu rg ((o + n) % 6) x 1), scW G (ha 2) (rgu rg ((o + n) % 6) x 2), scW G (ha 3) (rgu rg ((o + n) % 6) x 3), scW G (ha 4) (rgu rg ((o + n) % 6) x 4), scW G (ha 5) (rgu rg ((o + n) % 6) x 5), scW G sb y] [1, 9] [0, 2, 3, 4, 5, 6, 7, 8] rfl (by decide)).symm ?_)
    refine V.aload_n E dX4_restore_43 rfl rfl ?_
    refine V.getf (C := RX4) (T := TX4) (N := 7) (ref := "GlassSpill") E 0 4 0 (by decide +kernel) rfl rfl (by decide) (by decide +kernel) rfl rfl dX4_restore_44 ?_
    refine V.callV (C := RX2) E (c_X2_marked G (ad 1) y (hy)) (bl [gsW G ad (some (sb 0)) s1, hiW G (ad 6) ha (onN o n) (hlN n), scW G (ha 0) (rgu rg ((o + n) % 6) x 0), scW G (ha 1) (rgu rg ((o + n) % 6) x 1), scW G (ha 2) (rgu rg ((o + n) % 6) x 2), scW G (ha 3) (rgu rg ((o + n) % 6) x 3), scW G (ha 4) (rgu rg ((o + n) % 6) x 4), scW G (ha 5) (rgu rg ((o + n) % 6) x 5), scW G sb y]) [] 2 2 rfl rfl rfl gX4_restore_X2_marked rfl ⟨rfl, hd_X2_marked⟩ ⟨⟨Nat.le_of_ble_eq_true rfl, Nat.le_of_ble_eq_true rfl⟩, Nat.le_of_ble_eq_true rfl, Nat.le_of_ble_eq_true rfl⟩ rfl (Nat.le_of_ble_eq_true rfl) rfl dX4_restore_47 (pBs (n := 10) [gsW G ad (some (sb 0)) s1, scW G (ad 1) y, hiW G (ad 6) ha (onN o n) (hlN n), scW G (ha 0) (rgu rg ((o + n) % 6) x 0), scW G (ha 1) (rgu rg ((o + n) % 6) x 1), scW G (ha 2) (rgu rg ((o + n) % 6) x 2), scW G (ha 3) (rgu rg ((o + n) % 6) x 3), scW G (ha 4) (rgu rg ((o + n) % 6) x 4), scW G (ha 5) (rgu rg ((o + n) % 6) x 5), scW G sb y] [1] [0, 2, 3, 4, 5, 6, 7, 8, 9] rfl (by decide)) (kc' := 0) (ks' := 0) rfl rfl (rwI (ws' := (bl [gsW G ad (some (sb 0)) s1, scW G (ad 1) y, hiW G (ad 6) ha (onN o n) (hlN n), scW G (ha 0) (rgu rg ((o + n) % 6) x 0), scW G (ha 1) (rgu rg ((o + n) % 6) x 1), scW G (ha 2) (rgu rg ((o + n) % 6) x 2), scW G (ha 3) (rgu rg ((o + n) % 6) x 3), scW G (ha 4) (rgu rg ((o + n) % 6) x 4), scW G (ha 5) (rgu rg ((o + n) % 6) x 5), scW G sb y])) (pBs (n := 10) [gsW G ad (some (sb 0)) s1, scW G (ad 1) y, hiW G (ad 6) ha (onN o n) (hlN n), scW G (ha 0) (rgu rg ((o + n) % 6) x 0), scW G (ha 1) (rgu rg ((o + n) % 6) x 1), scW G (ha 2) (rgu rg ((o + n) % 6) x 2), scW G (ha 3) (rgu rg ((o + n) % 6) x 3), scW G (ha 4) (rgu rg ((o + n) % 6) x 4), scW G (ha 5) (rgu rg ((o + n) % 6) x 5), scW G sb y] [1] [0, 2, 3, 4, 5, 6, 7, 8, 9] rfl (by decide)).symm ?_)
    exact hend _ _ _ _ dX4_restore_50 (nrI _) ⟨rfl, rfl⟩
  · exact absurd ((okI_n (show 0 < 2 by decide) (by omega)).symm.trans q_4) (by decide)
abbrev rm_c_X4_save_old_1 : Room := { frames := 2, cells := 0, slots := 0, locals := 48 }
set_option maxRecDepth 100000 in
set_option maxHeartbeats 8000000 in
theorem c_X4_save_old_1 (G : VC) (ad : AD) (s0 : Option Nat) (x : SC) (sb : Nat → Nat) (y : SC) (hx : SInv x) : Ctr yX4_save wsX4_save rm_c_X4_save_old_1 G [.ref (ad 0 0), .int (nI (1))] (bl [gsW G ad s0 (some (sb 0)), scW G (ad 1) x, scW G sb y]) (fun v9_ u9_ => u9_ = (bl [gsW G ad s0 (some (sb 0)), scW G (ad 1) x, scW G sb x]) ∧ v9_ = some (.int (nI (sumN 48 (scG x))))) := by
  refine Ctr.int (cc := cX4_save) (maxL := 3) (ret := (some .int)) (lv0 := [some (.ref (ad 0 0)), some (.int (nI (1))), none]) (by decide) rfl rfl rfl (Nat.le_of_ble_eq_true rfl) rfl (fun A X E hend => ?_)
  refine V.iload_n E dX4_save_0 rfl rfl ?_
  refine V.callS E (c_X4_isSlot G (nI (1)) ) (bl [gsW G ad s0 (some (sb 0)), scW G (ad 1) x, scW G sb y]) [] gX4_save_X4_isSlot rfl hd_X4_isSlot ⟨⟨Nat.le_of_ble_eq_true rfl, Nat.le_of_ble_eq_true rfl⟩, Nat.le_of_ble_eq_true rfl, Nat.le_of_ble_eq_true rfl⟩ rfl (Nat.le_of_ble_eq_true rfl) rfl dX4_save_1 (List.Perm.refl _) (kc' := 0) (ks' := 0) rfl rfl (rwI (ws' := (bl [gsW G ad s0 (some (sb 0)), scW G (ad 1) x, scW G sb y])) (List.Perm.refl _) ?_)
  refine V.if_neB (tgt := 10) E dX4_save_4 (by decide) (fun q_4 => ?_) (fun q_4 => ?_)
  · refine V.aload_n E dX4_save_10 rfl rfl ?_
    refine V.getf (C := RX4) (T := TX4) (N := 7) (ref := "GlassSpill") E 0 4 6 (by decide +kernel) rfl rfl (by decide) (by decide +kernel) rfl rfl dX4_save_11 ?_
    refine V.iload_n E dX4_save_14 rfl rfl ?_
    refine V.aaldN (v := .ref (sb 0)) E 1 rfl (by decide) (by decide) (rfl) dX4_save_15 ?_
    refine V.astore_n (lv' := [some (.ref (ad 0 0)), some (.int (nI (1))), some (.ref (sb 0))]) E dX4_save_16 rfl (Nat.le_of_ble_eq_true rfl) rfl rfl ?_
    refine V.aload_n E dX4_save_17 rfl rfl ?_
    refine V.ifnonnull (tgt := 36) E dX4_save_18 (by decide) ?_
    refine V.aload_n E dX4_save_36 rfl rfl ?_
    refine V.aload_n E dX4_save_37 rfl rfl ?_
    refine V.getf (C := RX4) (T := TX4) (N := 7) (ref := "GlassSpill") E 0 4 0 (by decide +kernel) rfl rfl (by decide) (by decide +kernel) rfl rfl dX4_save_38 ?_
    refine V.callV (C := RX2) E (c_X2_copyFrom G sb (ad 1) y x (hx)) (bl [gsW G ad s0 (some (sb 0))]) [] 7 2 rfl rfl rfl gX4_save_X2_copyFrom rfl ⟨rfl, hd_X2_copyFrom⟩ ⟨⟨Nat.le_of_ble_eq_true rfl, Nat.le_of_ble_eq_true rfl⟩, Nat.le_of_ble_eq_true rfl, Nat.le_of_ble_eq_true rfl⟩ rfl (Nat.le_of_ble_eq_true rfl) rfl dX4_save_41 (pBs (n := 3) [gsW G ad s0 (some (sb 0)), scW G (ad 1) x, scW G sb y] [2, 1] [0] rfl (by decide)) (kc' := 0) (ks' := 0) rfl rfl (rwV (ws' := (bl [gsW G ad s0 (some (sb 0)), scW G (ad 1) x, scW G sb x])) (pBs (n := 3) [gsW G ad s0 (some (sb 0)), scW G (ad 1) x, scW G sb x] [2, 1] [0] rfl (by decide)).symm ?_)
    refine V.aload_n E dX4_save_44 rfl rfl ?_
    refine V.getf (C := RX4) (T := TX4) (N := 7) (ref := "GlassSpill") E 0 4 0 (by decide +kernel) rfl rfl (by decide) (by decide +kernel) rfl rfl dX4_save_45 ?_
    refine V.callV (C := RX2) E (c_X2_marked G (ad 1) x (hx)) (bl [gsW G ad s0 (some (sb 0)), scW G sb x]) [] 2 2 rfl rfl rfl gX4_save_X2_marked rfl ⟨rfl, hd_X2_marked⟩ ⟨⟨Nat.le_of_ble_eq_true rfl, Nat.le_of_ble_eq_true rfl⟩, Nat.le_of_ble_eq_true rfl, Nat.le_of_ble_eq_true rfl⟩ rfl (Nat.le_of_ble_eq_true rfl) rfl dX4_save_48 (pBs (n := 3) [gsW G ad s0 (some (sb 0)), scW G (ad 1) x, scW G sb x] [1] [0, 2] rfl (by decide)) (kc' := 0) (ks' := 0) rfl rfl (rwI (ws' := (bl [gsW G ad s0 (some (sb 0)), scW G (ad 1) x, scW G sb x])) (pBs (n := 3) [gsW G ad s0 (some (sb 0)), scW G (ad 1) x, scW G sb x] [1] [0, 2] rfl (by decide)).symm ?_)
    exact hend _ _ _ _ dX4_save_51 (nrI _) ⟨rfl, rfl⟩
  · exact absurd ((okI_n (show 1 < 2 by decide) (by omega)).symm.trans q_4) (by decide)
abbrev rm_c_X4_save_new_1 : Room := { frames := 2, cells := 5, slots := 155, locals := 48 }
set_option maxRecDepth 100000 in
set_option maxHeartbeats 8000000 in
theorem c_X4_save_new_1 (G : VC) (ad : AD) (s0 : Option Nat) (x : SC) (hx : SInv x) : Ctr yX4_save wsX4_save rm_c_X4_save_new_1 G [.ref (ad 0 0), .int (nI (1))] (bl [gsW G ad s0 none, scW G (ad 1) x]) (fun v9_ u9_ => ∃ zz : Nat → Nat, u9_ = (bl [gsW G ad s0 (some (zz 0)), scW G (ad 1) x, scW G zz x]) ∧ v9_ = some (.int (nI (sumN 48 (scG x)))) ∧ (True)) := by
  refine Ctr.int (cc := cX4_save) (maxL := 3) (ret := (some .int)) (lv0 := [some (.ref (ad 0 0)), some (.int (nI (1))), none]) (by decide) rfl rfl rfl (Nat.le_of_ble_eq_true rfl) rfl (fun A X E hend => ?_)
  refine V.iload_n E dX4_save_0 rfl rfl ?_
  refine V.callS E (c_X4_isSlot G (nI (1)) ) (bl [gsW G ad s0 none, scW G (ad 1) x]) [] gX4_save_X4_isSlot rfl hd_X4_isSlot ⟨⟨Nat.le_of_ble_eq_true rfl, Nat.le_of_ble_eq_true rfl⟩, Nat.le_of_ble_eq_true rfl, Nat.le_of_ble_eq_true rfl⟩ rfl (Nat.le_of_ble_eq_true rfl) rfl dX4_save_1 (List.Perm.refl _) (kc' := 0) (ks' := 0) rfl rfl (rwI (ws' := (bl [gsW G ad s0 none, scW G (ad 1) x])) (List.Perm.refl _) ?_)
  refine V.if_neB (tgt := 10) E dX4_save_4 (by decide) (fun q_4 => ?_) (fun q_4 => ?_)
  · refine V.aload_n E dX4_save_10 rfl rfl ?_
    refine V.getf (C := RX4) (T := TX4) (N := 7) (ref := "GlassSpill") E 0 4 6 (by decide +kernel) rfl rfl (by decide) (by decide +kernel) rfl rfl dX4_save_11 ?_
    refine V.iload_n E dX4_save_14 rfl rfl ?_
    refine V.aaldN (v := .null) E 1 rfl (by decide) (by decide) (rfl) dX4_save_15 ?_
    refine V.astore_nN (lv' := [some (.ref (ad 0 0)), some (.int (nI (1))), some (.null)]) E dX4_save_16 rfl (Nat.le_of_ble_eq_true rfl) rfl rfl ?_
    refine V.aload_nN E dX4_save_17 rfl rfl ?_
    refine V.ifnonnullN E dX4_save_18 ?_
    refine V.newB (bs := [gsW G ad s0 none, scW G (ad 1) x]) (fs := [.null, .null, .null, .null, .int (nI (0))]) E 2 (by decide +kernel) tyX2_ok rfl (by decide +kernel) (by decide +kernel) (by decide +kernel) (by decide) ⟨Nat.le_of_ble_eq_true rfl, Nat.le_of_ble_eq_true rfl⟩ dX4_save_21 (fun n_21 => ?_)
    show V G A X rm_c_X4_save_new_1 (bl [gsW G ad s0 none, scW G (ad 1) x, [(n_21, kO 2 [.null, .null, .null, .null, .int (nI (0))])]]) 1 5 24 [some (.ref (ad 0 0)), some (.int (nI (1))), some (.null)] [.ref (n_21)]
    refine V.dup E dX4_save_24 rfl ?_
    refine V.callI E (c_X2_init G n_21 ) (bl [gsW G ad s0 none, scW G (ad 1) x]) [.ref (n_21)] gX4_save_X2_init rfl (by decide +kernel) (by decide +kernel) (by decide +kernel) rfl hd_X2_init ⟨⟨Nat.le_of_ble_eq_true rfl, Nat.le_of_ble_eq_true rfl⟩, Nat.le_of_ble_eq_true rfl, Nat.le_of_ble_eq_true rfl⟩ rfl (Nat.le_of_ble_eq_true rfl) rfl dX4_save_25 (pBs (n := 3) [gsW G ad s0 none, scW G (ad 1) x, [(n_21, kO 2 [.null, .null, .null, .null, .int (nI (0))])]] [2] [0, 1] rfl (by decide)) (kc' := 5) (ks' := 155) rfl rfl (rxV (ws' := fun (g_25 : Nat → Nat) => (bl [gsW G ad s0 none, scW G (ad 1) x, scW G g_25 sc00])) (fun g_25 => (pBs (n := 3) [gsW G ad s0 none, scW G (ad 1) x, scW G g_25 sc00] [2] [0, 1] rfl (by decide)).symm) (fun g_25 hf_25 => ?_))
    subst hf_25
    refine V.astore_n (lv' := [some (.ref (ad 0 0)), some (.int (nI (1))), some (.ref (g_25 0))]) E dX4_save_28 rfl (Nat.le_of_ble_eq_true rfl) rfl rfl ?_
    refine V.aload_n E dX4_save_29 rfl rfl ?_
    refine V.getf (C := RX4) (T := TX4) (N := 7) (ref := "GlassSpill") E 0 4 6 (by decide +kernel) rfl rfl (by decide) (by decide +kernel) rfl rfl dX4_save_30 ?_
    refine V.iload_n E dX4_save_33 rfl rfl ?_
    refine V.aload_n E dX4_save_34 rfl rfl ?_
    refine V.aastN (f' := fq s0 (some (g_25 0))) (ws' := (bl [gsW G ad s0 (some (g_25 0)), scW G (ad 1) x, scW G g_25 sc00])) E 1 7 rfl rfl (by decide) (by decide) dX4_save_35 (fq_u1) rfl ?_
    refine V.aload_n E dX4_save_36 rfl rfl ?_
    refine V.aload_n E dX4_save_37 rfl rfl ?_
    refine V.getf (C := RX4) (T := TX4) (N := 7) (ref := "GlassSpill") E 0 4 0 (by decide +kernel) rfl rfl (by decide) (by decide +kernel) rfl rfl dX4_save_38 ?_
    refine V.callV (C := RX2) E (c_X2_copyFrom G g_25 (ad 1) sc00 x (hx)) (bl [gsW G ad s0 (some (g_25 0))]) [] 7 2 rfl rfl rfl gX4_save_X2_copyFrom rfl ⟨rfl, hd_X2_copyFrom⟩ ⟨⟨Nat.le_of_ble_eq_true rfl, Nat.le_of_ble_eq_true rfl⟩, Nat.le_of_ble_eq_true rfl, Nat.le_of_ble_eq_true rfl⟩ rfl (Nat.le_of_ble_eq_true rfl) rfl dX4_save_41 (pBs (n := 3) [gsW G ad s0 (some (g_25 0)), scW G (ad 1) x, scW G g_25 sc00] [2, 1] [0] rfl (by decide)) (kc' := 5) (ks' := 155) rfl rfl (rwV (ws' := (bl [gsW G ad s0 (some (g_25 0)), scW G (ad 1) x, scW G g_25 x])) (pBs (n := 3) [gsW G ad s0 (some (g_25 0)), scW G (ad 1) x, scW G g_25 x] [2, 1] [0] rfl (by decide)).symm ?_)
    refine V.aload_n E dX4_save_44 rfl rfl ?_
    refine V.getf (C := RX4) (T := TX4) (N := 7) (ref := "GlassSpill") E 0 4 0 (by decide +kernel) rfl rfl (by decide) (by decide +kernel) rfl rfl dX4_save_45 ?_
    refine V.callV (C := RX2) E (c_X2_marked G (ad 1) x (hx)) (bl [gsW G ad s0 (some (g_25 0)), scW G g_25 x]) [] 2 2 rfl rfl rfl gX4_save_X2_marked rfl ⟨rfl, hd_X2_marked⟩ ⟨⟨Nat.le_of_ble_eq_true rfl, Nat.le_of_ble_eq_true rfl⟩, Nat.le_of_ble_eq_true rfl, Nat.le_of_ble_eq_true rfl⟩ rfl (Nat.le_of_ble_eq_true rfl) rfl dX4_save_48 (pBs (n := 3) [gsW G ad s0 (some (g_25 0)), scW G (ad 1) x, scW G g_25 x] [1] [0, 2] rfl (by decide)) (kc' := 5) (ks' := 155) rfl rfl (rwI (ws' := (bl [gsW G ad s0 (some (g_25 0)), scW G (ad 1) x, scW G g_25 x])) (pBs (n := 3) [gsW G ad s0 (some (g_25 0)), scW G (ad 1) x, scW G g_25 x] [1] [0, 2] rfl (by decide)).symm ?_)
    exact hend _ _ _ _ dX4_save_51 (nrI _) ⟨g_25, rfl, rfl, trivial⟩
  · exact absurd ((okI_n (show 1 < 2 by decide) (by omega)).symm.trans q_4) (by decide)
abbrev rm_c_X4_restore_none_1 : Room := { frames := 1, cells := 0, slots := 0, locals := 20 }
set_option maxRecDepth 100000 in
set_option maxHeartbeats 8000000 in
theorem c_X4_restore_none_1 (G : VC) (ad : AD) (s0 : Option Nat) (x : SC) : Ctr yX4_restore wsX4_restore rm_c_X4_restore_none_1 G [.ref (ad 0 0), .int (nI (1))] (bl [gsW G ad s0 none, scW G (ad 1) x]) (fun v9_ u9_ => u9_ = (bl [gsW G ad s0 none, scW G (ad 1) x]) ∧ v9_ = some (.int ((-5 : Int32)))) := by
  refine Ctr.int (cc := cX4_restore) (maxL := 3) (ret := (some .int)) (lv0 := [some (.ref (ad 0 0)), some (.int (nI (1))), none]) (by decide) rfl rfl rfl (Nat.le_of_ble_eq_true rfl) rfl (fun A X E hend => ?_)
  refine V.iload_n E dX4_restore_0 rfl rfl ?_
  refine V.callS E (c_X4_isSlot G (nI (1)) ) (bl [gsW G ad s0 none, scW G (ad 1) x]) [] gX4_restore_X4_isSlot rfl hd_X4_isSlot ⟨⟨Nat.le_of_ble_eq_true rfl, Nat.le_of_ble_eq_true rfl⟩, Nat.le_of_ble_eq_true rfl, Nat.le_of_ble_eq_true rfl⟩ rfl (Nat.le_of_ble_eq_true rfl) rfl dX4_restore_1 (List.Perm.refl _) (kc' := 0) (ks' := 0) rfl rfl (rwI (ws' := (bl [gsW G ad s0 none, scW G (ad 1) x])) (List.Perm.refl _) ?_)
  refine V.if_neB (tgt := 10) E dX4_restore_4 (by decide) (fun q_4 => ?_) (fun q_4 => ?_)
  · refine V.aload_n E dX4_restore_10 rfl rfl ?_
    refine V.getf (C := RX4) (T := TX4) (N := 7) (ref := "GlassSpill") E 0 4 6 (by decide +kernel) rfl rfl (by decide) (by decide +kernel) rfl rfl dX4_restore_11 ?_
    refine V.iload_n E dX4_restore_14 rfl rfl ?_
    refine V.aaldN (v := .null) E 1 rfl (by decide) (by decide) (rfl) dX4_restore_15 ?_
    refine V.astore_nN (lv' := [some (.ref (ad 0 0)), some (.int (nI (1))), some (.null)]) E dX4_restore_16 rfl (Nat.le_of_ble_eq_true rfl) rfl rfl ?_
    refine V.aload_nN E dX4_restore_17 rfl rfl ?_
    refine V.ifnonnullN E dX4_restore_18 ?_
    refine V.bipush (v := (-5 : Int32)) E dX4_restore_21 (by decide) ?_
    exact hend _ _ _ _ dX4_restore_23 (nrI _) ⟨rfl, rfl⟩
  · exact absurd ((okI_n (show 1 < 2 by decide) (by omega)).symm.trans q_4) (by decide)
abbrev rm_c_X4_restore_ok_1 : Room := { frames := 3, cells := 0, slots := 0, locals := 70 }
set_option maxRecDepth 100000 in
set_option maxHeartbeats 8000000 in
theorem c_X4_restore_ok_1 (G : VC) (ad : AD) (s0 : Option Nat) (x : SC) (ha : AD) (rg : Nat → SC) (o : Nat) (n : Nat) (sb : Nat → Nat) (y : SC) (ho6 : o < 6) (hn6 : n ≤ 6) (hx : SInv x) (hy : SInv y) : Ctr yX4_restore wsX4_restore rm_c_X4_restore_ok_1 G [.ref (ad 0 0), .int (nI (1))] (bl [gsW G ad s0 (some (sb 0)), scW G (ad 1) x, hiW G (ad 6) ha o n, scW G (ha 0) (rg 0), scW G (ha 1) (rg 1), scW G (ha 2) (rg 2), scW G (ha 3) (rg 3), scW G (ha 4) (rg 4), scW G (ha 5) (rg 5), scW G sb y]) (fun v9_ u9_ => u9_ = (bl [gsW G ad s0 (some (sb 0)), scW G (ad 1) y, hiW G (ad 6) ha (onN o n) (hlN n), scW G (ha 0) (rgu rg ((o + n) % 6) x 0), scW G (ha 1) (rgu rg ((o + n) % 6) x 1), scW G (ha 2) (rgu rg ((o + n) % 6) x 2), scW G (ha 3) (rgu rg ((o + n) % 6) x 3), scW G (ha 4) (rgu rg ((o + n) % 6) x 4), scW G (ha 5) (rgu rg ((o + n) % 6) x 5), scW G sb y]) ∧ v9_ = some (.int (nI (sumN 48 (scG y))))) := by
  refine Ctr.int (cc := cX4_restore) (maxL := 3) (ret := (some .int)) (lv0 := [some (.ref (ad 0 0)), some (.int (nI (1))), none]) (by decide) rfl rfl rfl (Nat.le_of_ble_eq_true rfl) rfl (fun A X E hend => ?_)
  refine V.iload_n E dX4_restore_0 rfl rfl ?_
  refine V.callS E (c_X4_isSlot G (nI (1)) ) (bl [gsW G ad s0 (some (sb 0)), scW G (ad 1) x, hiW G (ad 6) ha o n, scW G (ha 0) (rg 0), scW G (ha 1) (rg 1), scW G (ha 2) (rg 2), scW G (ha 3) (rg 3), scW G (ha 4) (rg 4), scW G (ha 5) (rg 5), scW G sb y]) [] gX4_restore_X4_isSlot rfl hd_X4_isSlot ⟨⟨Nat.le_of_ble_eq_true rfl, Nat.le_of_ble_eq_true rfl⟩, Nat.le_of_ble_eq_true rfl, Nat.le_of_ble_eq_true rfl⟩ rfl (Nat.le_of_ble_eq_true rfl) rfl dX4_restore_1 (List.Perm.refl _) (kc' := 0) (ks' := 0) rfl rfl (rwI (ws' := (bl [gsW G ad s0 (some (sb 0)), scW G (ad 1) x, hiW G (ad 6) ha o n, scW G (ha 0) (rg 0), scW G (ha 1) (rg 1), scW G (ha 2) (rg 2), scW G (ha 3) (rg 3), scW G (ha 4) (rg 4), scW G (ha 5) (rg 5), scW G sb y])) (List.Perm.refl _) ?_)
  refine V.if_neB (tgt := 10) E dX4_restore_4 (by decide) (fun q_4 => ?_) (fun q_4 => ?_)
  · refine V.aload_n E dX4_restore_10 rfl rfl ?_
    refine V.getf (C := RX4) (T := TX4) (N := 7) (ref := "GlassSpill") E 0 4 6 (by decide +kernel) rfl rfl (by decide) (by decide +kernel) rfl rfl dX4_restore_11 ?_
    refine V.iload_n E dX4_restore_14 rfl rfl ?_
    refine V.aaldN (v := .ref (sb 0)) E 1 rfl (by decide) (by decide) (rfl) dX4_restore_15 ?_
    refine V.astore_n (lv' := [some (.ref (ad 0 0)), some (.int (nI (1))), some (.ref (sb 0))]) E dX4_restore_16 rfl (Nat.le_of_ble_eq_true rfl) rfl rfl ?_
    refine V.aload_n E dX4_restore_17 rfl rfl ?_
    refine V.ifnonnull (tgt := 24) E dX4_restore_18 (by decide) ?_
    refine V.aload_n E dX4_restore_24 rfl rfl ?_
    refine V.getf (C := RX4) (T := TX4) (N := 7) (ref := "GlassSpill") E 0 4 5 (by decide +kernel) rfl rfl (by decide) (by decide +kernel) rfl rfl dX4_restore_25 ?_
    refine V.aload_n E dX4_restore_28 rfl rfl ?_
    refine V.getf (C := RX4) (T := TX4) (N := 7) (ref := "GlassSpill") E 0 4 0 (by decide +kernel) rfl rfl (by decide) (by decide +kernel) rfl rfl dX4_restore_29 ?_
    refine V.callV (C := RX0) E (c_X0_remember G (ad 6) ha rg o n (ad 1) x (ho6) (hn6) (hx)) (bl [gsW G ad s0 (some (sb 0)), scW G sb y]) [] 7 0 rfl rfl rfl gX4_restore_X0_remember rfl ⟨rfl, hd_X0_remember⟩ ⟨⟨Nat.le_of_ble_eq_true rfl, Nat.le_of_ble_eq_true rfl⟩, Nat.le_of_ble_eq_true rfl, Nat.le_of_ble_eq_true rfl⟩ rfl (Nat.le_of_ble_eq_true rfl) rfl dX4_restore_32 (pBs (n := 10) [gsW G ad s0 (some (sb 0)), scW G (ad 1) x, hiW G (ad 6) ha o n, scW G (ha 0) (rg 0), scW G (ha 1) (rg 1), scW G (ha 2) (rg 2), scW G (ha 3) (rg 3), scW G (ha 4) (rg 4), scW G (ha 5) (rg 5), scW G sb y] [2, 3, 4, 5, 6, 7, 8, 1] [0, 9] rfl (by decide)) (kc' := 0) (ks' := 0) rfl rfl (rwV (ws' := (bl [gsW G ad s0 (some (sb 0)), scW G (ad 1) x, hiW G (ad 6) ha (onN o n) (hlN n), scW G (ha 0) (rgu rg ((o + n) % 6) x 0), scW G (ha 1) (rgu rg ((o + n) % 6) x 1), scW G (ha 2) (rgu rg ((o + n) % 6) x 2), scW G (ha 3) (rgu rg ((o + n) % 6) x 3), scW G (ha 4) (rgu rg ((o + n) % 6) x 4), scW G (ha 5) (rgu rg ((o + n) % 6) x 5), scW G sb y])) (pBs (n := 10) [gsW G ad s0 (some (sb 0)), scW G (ad 1) x, hiW G (ad 6) ha (onN o n) (hlN n), scW G (ha 0) (rgu rg ((o + n) % 6) x 0), scW G (ha 1) (rgu rg ((o + n) % 6) x 1), scW G (ha 2) (rgu rg ((o + n) % 6) x 2), scW G (ha 3) (rgu rg ((o + n) % 6) x 3), scW G (ha 4) (rgu rg ((o + n) % 6) x 4), scW G (ha 5) (rgu rg ((o + n) % 6) x 5), scW G sb y] [2, 3, 4, 5, 6, 7, 8, 1] [0, 9] rfl (by decide)).symm ?_)
    refine V.aload_n E dX4_restore_35 rfl rfl ?_
    refine V.getf (C := RX4) (T := TX4) (N := 7) (ref := "GlassSpill") E 0 4 0 (by decide +kernel) rfl rfl (by decide) (by decide +kernel) rfl rfl dX4_restore_36 ?_
    refine V.aload_n E dX4_restore_39 rfl rfl ?_
    refine V.callV (C := RX2) E (c_X2_copyFrom G (ad 1) sb x y (hy)) (bl [gsW G ad s0 (some (sb 0)), hiW G (ad 6) ha (onN o n) (hlN n), scW G (ha 0) (rgu rg ((o + n) % 6) x 0), scW G (ha 1) (rgu rg ((o + n) % 6) x 1), scW G (ha 2) (rgu rg ((o + n) % 6) x 2), scW G (ha 3) (rgu rg ((o + n) % 6) x 3), scW G (ha 4) (rgu rg ((o + n) % 6) x 4), scW G (ha 5) (rgu rg ((o + n) % 6) x 5)]) [] 2 2 rfl rfl rfl gX4_restore_X2_copyFrom rfl ⟨rfl, hd_X2_copyFrom⟩ ⟨⟨Nat.le_of_ble_eq_true rfl, Nat.le_of_ble_eq_true rfl⟩, Nat.le_of_ble_eq_true rfl, Nat.le_of_ble_eq_true rfl⟩ rfl (Nat.le_of_ble_eq_true rfl) rfl dX4_restore_40 (pBs (n := 10) [gsW G ad s0 (some (sb 0)), scW G (ad 1) x, hiW G (ad 6) ha (onN o n) (hlN n), scW G (ha 0) (rgu rg ((o + n) % 6) x 0), scW G (ha 1) (rgu rg ((o + n) % 6) x 1), scW G (ha 2) (rgu rg ((o + n) % 6) x 2), scW G (ha 3) (rgu rg ((o + n) % 6) x 3), scW G (ha 4) (rgu rg ((o + n) % 6) x 4), scW G (ha 5) (rgu rg ((o + n) % 6) x 5), scW G sb y] [1, 9] [0, 2, 3, 4, 5, 6, 7, 8] rfl (by decide)) (kc' := 0) (ks' := 0) rfl rfl (rwV (ws' := (bl [gsW G ad s0 (some (sb 0)), scW G (ad 1) y, hiW G (ad 6) ha (onN o n) (hlN n), scW G (ha 0) (rgu rg ((o + n) % 6) x 0), scW G (ha 1) (rgu rg ((o + n) % 6) x 1), scW G (ha 2) (rgu rg ((o + n) % 6) x 2), scW G (ha 3) (rgu rg ((o + n) % 6) x 3), scW G (ha 4) (rgu rg ((o + n) % 6) x 4), scW G (ha 5) (rgu rg ((o + n) % 6) x 5), scW G sb y])) (pBs (n := 10) [gsW G ad s0 (some (sb 0)), scW G (ad 1) y, hiW G (ad 6) ha (onN o n) (hlN n), scW G (ha 0) (rgu rg ((o + n) % 6) x 0), scW G (ha 1) (rgu rg ((o + n) % 6) x 1), scW G (ha 2) (rgu rg ((o + n) % 6) x 2), scW G (ha 3) (rgu rg ((o + n) % 6) x 3), scW G (ha 4) (rgu rg ((o + n) % 6) x 4), scW G (ha 5) (rgu rg ((o + n) % 6) x 5), scW G sb y] [1, 9] [0, 2, 3, 4, 5, 6, 7, 8] rfl (by decide)).symm ?_)
    refine V.aload_n E dX4_restore_43 rfl rfl ?_
    refine V.getf (C := RX4) (T := TX4) (N := 7) (ref := "GlassSpill") E 0 4 0 (by decide +kernel) rfl rfl (by decide) (by decide +kernel) rfl rfl dX4_restore_44 ?_
    refine V.callV (C := RX2) E (c_X2_marked G (ad 1) y (hy)) (bl [gsW G ad s0 (some (sb 0)), hiW G (ad 6) ha (onN o n) (hlN n), scW G (ha 0) (rgu rg ((o + n) % 6) x 0), scW G (ha 1) (rgu rg ((o + n) % 6) x 1), scW G (ha 2) (rgu rg ((o + n) % 6) x 2), scW G (ha 3) (rgu rg ((o + n) % 6) x 3), scW G (ha 4) (rgu rg ((o + n) % 6) x 4), scW G (ha 5) (rgu rg ((o + n) % 6) x 5), scW G sb y]) [] 2 2 rfl rfl rfl gX4_restore_X2_marked rfl ⟨rfl, hd_X2_marked⟩ ⟨⟨Nat.le_of_ble_eq_true rfl, Nat.le_of_ble_eq_true rfl⟩, Nat.le_of_ble_eq_true rfl, Nat.le_of_ble_eq_true rfl⟩ rfl (Nat.le_of_ble_eq_true rfl) rfl dX4_restore_47 (pBs (n := 10) [gsW G ad s0 (some (sb 0)), scW G (ad 1) y, hiW G (ad 6) ha (onN o n) (hlN n), scW G (ha 0) (rgu rg ((o + n) % 6) x 0), scW G (ha 1) (rgu rg ((o + n) % 6) x 1), scW G (ha 2) (rgu rg ((o + n) % 6) x 2), scW G (ha 3) (rgu rg ((o + n) % 6) x 3), scW G (ha 4) (rgu rg ((o + n) % 6) x 4), scW G (ha 5) (rgu rg ((o + n) % 6) x 5), scW G sb y] [1] [0, 2, 3, 4, 5, 6, 7, 8, 9] rfl (by decide)) (kc' := 0) (ks' := 0) rfl rfl (rwI (ws' := (bl [gsW G ad s0 (some (sb 0)), scW G (ad 1) y, hiW G (ad 6) ha (onN o n) (hlN n), scW G (ha 0) (rgu rg ((o + n) % 6) x 0), scW G (ha 1) (rgu rg ((o + n) % 6) x 1), scW G (ha 2) (rgu rg ((o + n) % 6) x 2), scW G (ha 3) (rgu rg ((o + n) % 6) x 3), scW G (ha 4) (rgu rg ((o + n) % 6) x 4), scW G (ha 5) (rgu rg ((o + n) % 6) x 5), scW G sb y])) (pBs (n := 10) [gsW G ad s0 (some (sb 0)), scW G (ad 1) y, hiW G (ad 6) ha (onN o n) (hlN n), scW G (ha 0) (rgu rg ((o + n) % 6) x 0), scW G (ha 1) (rgu rg ((o + n) % 6) x 1), scW G (ha 2) (rgu rg ((o + n) % 6) x 2), scW G (ha 3) (rgu rg ((o + n) % 6) x 3), scW G (ha 4) (rgu rg ((o + n) % 6) x 4), scW G (ha 5) (rgu rg ((o + n) % 6) x 5), scW G sb y] [1] [0, 2, 3, 4, 5, 6, 7, 8, 9] rfl (by decide)).symm ?_)
    exact hend _ _ _ _ dX4_restore_50 (nrI _) ⟨rfl, rfl⟩
  · exact absurd ((okI_n (show 1 < 2 by decide) (by omega)).symm.trans q_4) (by decide)
