/-! Scene and View -/
abbrev zN : Nat → Nat := fun _ => 0
theorem stepD {r : Nat → Nat} {w : GZ} {i k : Nat} (h : (BI r w ∧ eOK r 48 w) ∧ i < w.2.2 ∧ (∀ j, j < i → sOK r w j 4) ∧ sOK r w i k) (hk : k < 4) :
    (BI r (rc r (nbI (w.2.1 i) k) w) ∧ eOK r 48 (rc r (nbI (w.2.1 i) k) w)) ∧ i < (rc r (nbI (w.2.1 i) k) w).2.2 ∧ (∀ j, j < i → sOK r (rc r (nbI (w.2.1 i) k) w) j 4) ∧ sOK r (rc r (nbI (w.2.1 i) k) w) i (k + 1) := by
  obtain ⟨⟨hb, he⟩, hi, hs, hd⟩ := h
  have hq := hb.2.2.1 i hi
  have hnb : ∀ p, p < 48 → nbI (w.2.1 i) k = nI p → nbOK (w.2.1 i) k = true ∧ nbP (w.2.1 i) k = p := by
    intro p hp e
    cases h : nbOK (w.2.1 i) k with
    | true =>
      rw [nbI_t h] at e
      exact ⟨rfl, (nI_eq (by have := nbP_lt hq.1 h; omega) (by omega)).mp e⟩
    | false =>
      rw [nbI_f h] at e
      have h2 := okI_n (n := 48) hp (by omega)
      rw [← e, okI_m rfl] at h2
      cases h2
  obtain ⟨a1, a2, a3, a4, a5⟩ := BI.stp (x := nbI (w.2.1 i) k) hb (fun p hp e hr => by
    obtain ⟨h1, h2⟩ := hnb p hp e
    obtain ⟨k', hk', b1, b2⟩ := nb_back hq.1 hk h1
    rw [h2] at b1 b2
    exact Opn.step hr hk' b1 (by rw [b2]; exact hb.2.2.2.1 _ hq.1 hq.2))
  have keep : ∀ j, j < w.2.2 → ∀ n, sOK r w j n → sOK r (rc r (nbI (w.2.1 i) k) w) j n := by
    intro j hj n hs k' hk' ho hr
    rw [a3 j hj] at ho hr ⊢
    exact a2 _ (nbP_lt (hb.2.2.1 j hj).1 ho) (hs k' hk' ho hr)
  refine ⟨⟨a1, fun p hp e hr => a2 p hp (he p hp e hr)⟩, by omega, fun j hj => keep j (by omega) 4 (hs j hj), fun k' hk' ho hr => ?_⟩
  rcases Nat.lt_succ_iff_lt_or_eq.mp hk' with h | h
  · exact keep i hi k hd k' h ho hr
  · subst h
    rw [a3 i hi] at ho hr ⊢
    exact a5 _ (nbP_lt hq.1 ho) (nbI_t ho) hr
abbrev rm_c_X2_copyFrom : Room := { frames := 1, cells := 0, slots := 0, locals := 26 }
theorem hd_X2_copyFrom : yX2_copyFrom.cls ≠ "java/lang/invoke/MethodHandle" ∧ yX2_copyFrom.cls ≠ "java/lang/invoke/VarHandle" ∧ (parseMethodDescriptor yX2_copyFrom.desc).map (fun d => d.parameters.length) = some 1 := by decide +kernel
set_option maxRecDepth 100000 in
set_option maxHeartbeats 8000000 in
theorem c_X2_copyFrom (G : VC) (a : Nat → Nat) (b : Nat → Nat) (x : SC) (y : SC) (hy : SInv y) : Ctr yX2_copyFrom wsX2_copyFrom rm_c_X2_copyFrom G [.ref (a 0), .ref (b 0)] (bl [scW G a x, scW G b y]) (fun v9_ u9_ => u9_ = (bl [scW G a y, scW G b y]) ∧ v9_ = none) := by
  refine Ctr.void (cc := cX2_copyFrom) (maxL := 3) (lv0 := [some (.ref (a 0)), some (.ref (b 0)), none]) (by decide) rfl rfl rfl (Nat.le_of_ble_eq_true rfl) (fun A X E hinit hend => ?_)
  refine V.aload_n E dX2_copyFrom_0 rfl rfl ?_
  refine V.getf (C := RX2) (T := TX2) (N := 5) (ref := "GlassSpill$Scene") E 5 2 0 (by decide +kernel) rfl rfl (by decide) (by decide +kernel) rfl rfl dX2_copyFrom_1 ?_
  refine V.iconst (v := nI (0)) E dX2_copyFrom_4 (by decide) ?_
  refine V.aload_n E dX2_copyFrom_5 rfl rfl ?_
  refine V.getf (C := RX2) (T := TX2) (N := 5) (ref := "GlassSpill$Scene") E 0 2 0 (by decide +kernel) rfl rfl (by decide) (by decide +kernel) rfl rfl dX2_copyFrom_6 ?_
  refine V.iconst (v := nI (0)) E dX2_copyFrom_9 (by decide) ?_
  refine V.bipush (v := nI (6)) E dX2_copyFrom_10 (by decide) ?_
  refine V.copy (ws' := (bl [scW G a ((scS y, x.2)), scW G b y])) E 6 1 0 rfl rfl rfl rfl (by decide) (fun _ _ => rfl) (by decide +kernel) (by decide +kernel) (by decide +kernel) (by decide +kernel) ⟨Nat.le_of_ble_eq_true rfl, Nat.le_of_ble_eq_true rfl⟩ rfl dX2_copyFrom_12 rfl ?_
  refine V.aload_n E dX2_copyFrom_15 rfl rfl ?_
  refine V.getf (C := RX2) (T := TX2) (N := 5) (ref := "GlassSpill$Scene") E 5 2 1 (by decide +kernel) rfl rfl (by decide) (by decide +kernel) rfl rfl dX2_copyFrom_16 ?_
  refine V.iconst (v := nI (0)) E dX2_copyFrom_19 (by decide) ?_
  refine V.aload_n E dX2_copyFrom_20 rfl rfl ?_
  refine V.getf (C := RX2) (T := TX2) (N := 5) (ref := "GlassSpill$Scene") E 0 2 1 (by decide +kernel) rfl rfl (by decide) (by decide +kernel) rfl rfl dX2_copyFrom_21 ?_
  refine V.iconst (v := nI (0)) E dX2_copyFrom_24 (by decide) ?_
  refine V.bipush (v := nI (48)) E dX2_copyFrom_25 (by decide) ?_
  refine V.copy (ws' := (bl [scW G a ((scS y, scF y, x.2.2)), scW G b y])) E 7 2 0 rfl rfl rfl rfl (by decide) (fun _ _ => rfl) (by decide +kernel) (by decide +kernel) (by decide +kernel) (by decide +kernel) ⟨Nat.le_of_ble_eq_true rfl, Nat.le_of_ble_eq_true rfl⟩ rfl dX2_copyFrom_27 rfl ?_
  refine V.aload_n E dX2_copyFrom_30 rfl rfl ?_
  refine V.getf (C := RX2) (T := TX2) (N := 5) (ref := "GlassSpill$Scene") E 5 2 2 (by decide +kernel) rfl rfl (by decide) (by decide +kernel) rfl rfl dX2_copyFrom_31 ?_
  refine V.iconst (v := nI (0)) E dX2_copyFrom_34 (by decide) ?_
  refine V.aload_n E dX2_copyFrom_35 rfl rfl ?_
  refine V.getf (C := RX2) (T := TX2) (N := 5) (ref := "GlassSpill$Scene") E 0 2 2 (by decide +kernel) rfl rfl (by decide) (by decide +kernel) rfl rfl dX2_copyFrom_36 ?_
  refine V.iconst (v := nI (0)) E dX2_copyFrom_39 (by decide) ?_
  refine V.bipush (v := nI (48)) E dX2_copyFrom_40 (by decide) ?_
  refine V.copy (ws' := (bl [scW G a ((scS y, scF y, scB y, x.2.2.2)), scW G b y])) E 8 3 0 rfl rfl rfl rfl (by decide) (fun _ _ => rfl) (by decide +kernel) (by decide +kernel) (by decide +kernel) (by decide +kernel) ⟨Nat.le_of_ble_eq_true rfl, Nat.le_of_ble_eq_true rfl⟩ rfl dX2_copyFrom_42 rfl ?_
  refine V.iconst (v := nI (0)) E dX2_copyFrom_45 (by decide) ?_
  refine V.istore_n (lv' := [some (.ref (a 0)), some (.ref (b 0)), some (.int (nI (0)))]) E dX2_copyFrom_46 rfl (Nat.le_of_ble_eq_true rfl) rfl rfl ?_
  refine V.arr (f' := nA (mxn 0 (scG y) (scG x))) (ws' := (bl [scW G a ((scS y, scF y, scB y, mxn 0 (scG y) (scG x), scC x)), scW G b y])) 4 rfl (fun j _ => mxn_0 j) rfl ?_
  refine loopN (P := fun i47 => V G A X rm_c_X2_copyFrom (bl [scW G a ((scS y, scF y, scB y, mxn i47 (scG y) (scG x), scC x)), scW G b y]) 0 0 47 [some (.ref (a 0)), some (.ref (b 0)), some (.int (nI (i47)))] []) 48 (fun i47 hi_47 ih_47 => ?_) 0 (Nat.zero_le _)
  refine V.iload_n E dX2_copyFrom_47 rfl rfl ?_
  refine V.bipush (v := nI (48)) E dX2_copyFrom_48 (by decide) ?_
  refine V.icmp_geN (tgt := 71) E (by omega) (by omega) dX2_copyFrom_50 (by decide) (fun q_50 => ?_) (fun q_50 => ?_)
  · obtain rfl : i47 = 48 := by omega
    refine V.arr (f' := nA (scG y)) (ws' := (bl [scW G a ((scS y, scF y, scB y, scG y, scC x)), scW G b y])) 4 rfl (fun j hj => mxn_n j hj) rfl ?_
    refine V.aload_n E dX2_copyFrom_71 rfl rfl ?_
    refine V.aload_n E dX2_copyFrom_72 rfl rfl ?_
    refine V.getf (C := RX2) (T := TX2) (N := 5) (ref := "GlassSpill$Scene") E 5 2 4 (by decide +kernel) rfl rfl (by decide) (by decide +kernel) rfl rfl dX2_copyFrom_73 ?_
    refine V.putf (C := RX2) (T := TX2) (N := 5) (ref := "GlassSpill$Scene") (ws' := (bl [scW G a ((scS y, scF y, scB y, scG y, scC y)), scW G b y])) E 0 2 4 (by decide +kernel) tyX2_ok nmX2 rfl rfl (by decide) (by decide +kernel) rfl rfl rfl rfl (Nat.le_of_ble_eq_true rfl) dX2_copyFrom_76 rfl ?_
    exact hend _ _ _ dX2_copyFrom_79 ⟨rfl, rfl⟩
  · refine V.aload_n E dX2_copyFrom_53 rfl rfl ?_
    refine V.getf (C := RX2) (T := TX2) (N := 5) (ref := "GlassSpill$Scene") E 0 2 3 (by decide +kernel) rfl rfl (by decide) (by decide +kernel) rfl rfl dX2_copyFrom_54 ?_
    refine V.iload_n E dX2_copyFrom_57 rfl rfl ?_
    refine V.aload_n E dX2_copyFrom_58 rfl rfl ?_
    refine V.getf (C := RX2) (T := TX2) (N := 5) (ref := "GlassSpill$Scene") E 5 2 3 (by decide +kernel) rfl rfl (by decide) (by decide +kernel) rfl rfl dX2_copyFrom_59 ?_
    refine V.iload_n E dX2_copyFrom_62 rfl rfl ?_
    refine V.zaldN (v := nI (scG y i47)) E 9 rfl (by omega) (by decide) (rfl) dX2_copyFrom_63 ?_
    refine V.zastN (f' := nA (mxn (i47 + 1) (scG y) (scG x))) (ws' := (bl [scW G a ((scS y, scF y, scB y, mxn (i47 + 1) (scG y) (scG x), scC x)), scW G b y])) E 4 rfl (by omega) (by decide) dX2_copyFrom_64 (vnb _ (hy.g i47 (by omega))) (fun j _ => mxn_u rfl j) rfl ?_
    refine V.iincN (lv' := [some (.ref (a 0)), some (.ref (b 0)), some (.int (nI (i47 + 1)))]) E dX2_copyFrom_65 rfl (Nat.le_of_ble_eq_true rfl) rfl rfl ?_
    refine V.goto (tgt := 47) E dX2_copyFrom_68 (by decide) ?_
    exact ih_47 (by omega)
abbrev rm_c_X2_changeSetting : Room := { frames := 1, cells := 0, slots := 0, locals := 20 }
theorem hd_X2_changeSetting : yX2_changeSetting.cls ≠ "java/lang/invoke/MethodHandle" ∧ yX2_changeSetting.cls ≠ "java/lang/invoke/VarHandle" ∧ (parseMethodDescriptor yX2_changeSetting.desc).map (fun d => d.parameters.length) = some 2 := by decide +kernel
set_option maxRecDepth 100000 in
set_option maxHeartbeats 8000000 in
theorem c_X2_changeSetting (G : VC) (b : Nat → Nat) (x : SC) (k : Nat) (v : Nat) (hk : k < 6) : Ctr yX2_changeSetting wsX2_changeSetting rm_c_X2_changeSetting G [.ref (b 0), .int (nI (k)), .int (nI (v))] (bl [scW G b x]) (fun v9_ u9_ => u9_ = (bl [scW G b ((upN (scS x) k v, x.2))]) ∧ v9_ = some (.int (nI (scS x k)))) := by
  refine Ctr.int (cc := cX2_changeSetting) (maxL := 4) (ret := (some .int)) (lv0 := [some (.ref (b 0)), some (.int (nI (k))), some (.int (nI (v))), none]) (by decide) rfl rfl rfl (Nat.le_of_ble_eq_true rfl) rfl (fun A X E hend => ?_)
  refine V.iload_n E dX2_changeSetting_0 rfl rfl ?_
  refine V.callSN (host := "GlassSpill")  E (c_X4_isSetting G (nI (k)) ) (bl [scW G b x]) [] gX2_changeSetting_X4_isSetting_n38 rfl (by decide +kernel) (by decide +kernel) (by decide +kernel) hd_X4_isSetting ⟨⟨Nat.le_of_ble_eq_true rfl, Nat.le_of_ble_eq_true rfl⟩, Nat.le_of_ble_eq_true rfl, Nat.le_of_ble_eq_true rfl⟩ rfl (Nat.le_of_ble_eq_true rfl) rfl dX2_changeSetting_1 (List.Perm.refl _) (kc' := 0) (ks' := 0) rfl rfl (rwI (ws' := (bl [scW G b x])) (List.Perm.refl _) ?_)
  refine V.if_neB (tgt := 10) E dX2_changeSetting_4 (by decide) (fun q_4 => ?_) (fun q_4 => ?_)
  · refine V.aload_n E dX2_changeSetting_10 rfl rfl ?_
    refine V.getf (C := RX2) (T := TX2) (N := 5) (ref := "GlassSpill$Scene") E 0 2 0 (by decide +kernel) rfl rfl (by decide) (by decide +kernel) rfl rfl dX2_changeSetting_11 ?_
    refine V.iload_n E dX2_changeSetting_14 rfl rfl ?_
    refine V.ialdN (v := nI (scS x k)) E 1 rfl (by omega) (by decide) (rfl) dX2_changeSetting_15 ?_
    refine V.istore_n (lv' := [some (.ref (b 0)), some (.int (nI (k))), some (.int (nI (v))), some (.int (nI (scS x k)))]) E dX2_changeSetting_16 rfl (Nat.le_of_ble_eq_true rfl) rfl rfl ?_
    refine V.aload_n E dX2_changeSetting_17 rfl rfl ?_
    refine V.getf (C := RX2) (T := TX2) (N := 5) (ref := "GlassSpill$Scene") E 0 2 0 (by decide +kernel) rfl rfl (by decide) (by decide +kernel) rfl rfl dX2_changeSetting_18 ?_
    refine V.iload_n E dX2_changeSetting_21 rfl rfl ?_
    refine V.iload_n E dX2_changeSetting_22 rfl rfl ?_
    refine V.iastN (f' := nA (upN (scS x) k v)) (ws' := (bl [scW G b ((upN (scS x) k v, x.2))])) E 1 rfl (by omega) (by decide) dX2_changeSetting_23 (fun j _ => upN_a j) rfl ?_
    refine V.iload_n E dX2_changeSetting_24 rfl rfl ?_
    exact hend _ _ _ _ dX2_changeSetting_25 (nrI _) ⟨rfl, rfl⟩
  · exact absurd (okI_n hk (by omega)) (by rw [q_4]; decide)
abbrev rm_c_X2_picture_t : Room := { frames := 0, cells := 0, slots := 0, locals := 0 }
theorem hd_X2_picture : yX2_picture.cls ≠ "java/lang/invoke/MethodHandle" ∧ yX2_picture.cls ≠ "java/lang/invoke/VarHandle" ∧ (parseMethodDescriptor yX2_picture.desc).map (fun d => d.parameters.length) = some 1 := by decide +kernel
set_option maxRecDepth 100000 in
set_option maxHeartbeats 8000000 in
theorem c_X2_picture_t (G : VC) (b : Nat → Nat) (x : SC) : Ctr yX2_picture wsX2_picture rm_c_X2_picture_t G [.ref (b 0), .int (nI (bN true))] (bl [scW G b x]) (fun v9_ u9_ => u9_ = (bl [scW G b x]) ∧ v9_ = some (.ref (b 2))) := by
  refine Ctr.aref (cc := cX2_picture) (maxL := 2) (lv0 := [some (.ref (b 0)), some (.int (nI (bN true)))]) (by decide) rfl rfl rfl (Nat.le_of_ble_eq_true rfl) (fun A X E hend => ?_)
  refine V.iload_n E dX2_picture_0 rfl rfl ?_
  refine V.if_eqB (tgt := 11) E dX2_picture_1 (by decide) (fun q_1 => ?_) (fun q_1 => ?_)
  · exact absurd q_1 (by decide)
  · refine V.aload_n E dX2_picture_4 rfl rfl ?_
    refine V.getf (C := RX2) (T := TX2) (N := 5) (ref := "GlassSpill$Scene") E 0 2 1 (by decide +kernel) rfl rfl (by decide) (by decide +kernel) rfl rfl dX2_picture_5 ?_
    refine V.goto (tgt := 15) E dX2_picture_8 (by decide) ?_
    exact hend _ _ _ _ dX2_picture_15 ⟨rfl, rfl⟩
abbrev rm_c_X2_picture_f : Room := { frames := 0, cells := 0, slots := 0, locals := 0 }
set_option maxRecDepth 100000 in
set_option maxHeartbeats 8000000 in
theorem c_X2_picture_f (G : VC) (b : Nat → Nat) (x : SC) : Ctr yX2_picture wsX2_picture rm_c_X2_picture_f G [.ref (b 0), .int (nI (bN false))] (bl [scW G b x]) (fun v9_ u9_ => u9_ = (bl [scW G b x]) ∧ v9_ = some (.ref (b 3))) := by
  refine Ctr.aref (cc := cX2_picture) (maxL := 2) (lv0 := [some (.ref (b 0)), some (.int (nI (bN false)))]) (by decide) rfl rfl rfl (Nat.le_of_ble_eq_true rfl) (fun A X E hend => ?_)
  refine V.iload_n E dX2_picture_0 rfl rfl ?_
  refine V.if_eqB (tgt := 11) E dX2_picture_1 (by decide) (fun q_1 => ?_) (fun q_1 => ?_)
  · refine V.aload_n E dX2_picture_11 rfl rfl ?_
    refine V.getf (C := RX2) (T := TX2) (N := 5) (ref := "GlassSpill$Scene") E 0 2 2 (by decide +kernel) rfl rfl (by decide) (by decide +kernel) rfl rfl dX2_picture_12 ?_
    exact hend _ _ _ _ dX2_picture_15 ⟨rfl, rfl⟩
  · exact absurd q_1 (by decide)
abbrev rm_c_X2_distanceOf : Room := { frames := 3, cells := 0, slots := 0, locals := 64 }
theorem hd_X2_distanceOf : yX2_distanceOf.cls ≠ "java/lang/invoke/MethodHandle" ∧ yX2_distanceOf.cls ≠ "java/lang/invoke/VarHandle" ∧ (parseMethodDescriptor yX2_distanceOf.desc).map (fun d => d.parameters.length) = some 1 := by decide +kernel
set_option maxRecDepth 100000 in
set_option maxHeartbeats 8000000 in
theorem c_X2_distanceOf (G : VC) (b : Nat → Nat) (x : SC) (p : Nat) (hx : SInv x) (hp : p < 48) : Ctr yX2_distanceOf wsX2_distanceOf rm_c_X2_distanceOf G [.ref (b 0), .int (nI (p))] (bl [scW G b x]) (fun v9_ u9_ => u9_ = (bl [scW G b x]) ∧ v9_ = some (.int (nI (dist (scF x p) (scC x))))) := by
  refine Ctr.int (cc := cX2_distanceOf) (maxL := 2) (ret := (some .int)) (lv0 := [some (.ref (b 0)), some (.int (nI (p)))]) (by decide) rfl rfl rfl (Nat.le_of_ble_eq_true rfl) rfl (fun A X E hend => ?_)
  refine V.iload_n E dX2_distanceOf_0 rfl rfl ?_
  refine V.callSN (host := "GlassSpill")  E (c_X4_isPixel G (nI (p)) ) (bl [scW G b x]) [] gX2_distanceOf_X4_isPixel_n42 rfl (by decide +kernel) (by decide +kernel) (by decide +kernel) hd_X4_isPixel ⟨⟨Nat.le_of_ble_eq_true rfl, Nat.le_of_ble_eq_true rfl⟩, Nat.le_of_ble_eq_true rfl, Nat.le_of_ble_eq_true rfl⟩ rfl (Nat.le_of_ble_eq_true rfl) rfl dX2_distanceOf_1 (List.Perm.refl _) (kc' := 0) (ks' := 0) rfl rfl (rwI (ws' := (bl [scW G b x])) (List.Perm.refl _) ?_)
  refine V.if_eqB (tgt := 23) E dX2_distanceOf_4 (by decide) (fun q_4 => ?_) (fun q_4 => ?_)
  · exact absurd (okI_n hp (by omega)) (by rw [q_4]; decide)
  · refine V.aload_n E dX2_distanceOf_7 rfl rfl ?_
    refine V.getf (C := RX2) (T := TX2) (N := 5) (ref := "GlassSpill$Scene") E 0 2 1 (by decide +kernel) rfl rfl (by decide) (by decide +kernel) rfl rfl dX2_distanceOf_8 ?_
    refine V.iload_n E dX2_distanceOf_11 rfl rfl ?_
    refine V.ialdN (v := nI (scF x p)) E 2 rfl (by omega) (by decide) (rfl) dX2_distanceOf_12 ?_
    refine V.aload_n E dX2_distanceOf_13 rfl rfl ?_
    refine V.getf (C := RX2) (T := TX2) (N := 5) (ref := "GlassSpill$Scene") E 0 2 4 (by decide +kernel) rfl rfl (by decide) (by decide +kernel) rfl rfl dX2_distanceOf_14 ?_
    refine V.callSN (host := "GlassSpill")  E (c_X4_distance G (scF x p) (scC x) (hx.f p hp) (hx.c)) (bl [scW G b x]) [] gX2_distanceOf_X4_distance_n45 rfl (by decide +kernel) (by decide +kernel) (by decide +kernel) hd_X4_distance ⟨⟨Nat.le_of_ble_eq_true rfl, Nat.le_of_ble_eq_true rfl⟩, Nat.le_of_ble_eq_true rfl, Nat.le_of_ble_eq_true rfl⟩ rfl (Nat.le_of_ble_eq_true rfl) rfl dX2_distanceOf_17 (List.Perm.refl _) (kc' := 0) (ks' := 0) rfl rfl (rwI (ws' := (bl [scW G b x])) (List.Perm.refl _) ?_)
    refine V.goto (tgt := 24) E dX2_distanceOf_20 (by decide) ?_
    exact hend _ _ _ _ dX2_distanceOf_24 (nrI _) ⟨rfl, rfl⟩
abbrev rm_c_X2_marked : Room := { frames := 0, cells := 0, slots := 0, locals := 0 }
theorem hd_X2_marked : yX2_marked.cls ≠ "java/lang/invoke/MethodHandle" ∧ yX2_marked.cls ≠ "java/lang/invoke/VarHandle" ∧ (parseMethodDescriptor yX2_marked.desc).map (fun d => d.parameters.length) = some 0 := by decide +kernel
set_option maxRecDepth 100000 in
set_option maxHeartbeats 8000000 in
theorem c_X2_marked (G : VC) (b : Nat → Nat) (x : SC) (hx : SInv x) : Ctr yX2_marked wsX2_marked rm_c_X2_marked G [.ref (b 0)] (bl [scW G b x]) (fun v9_ u9_ => u9_ = (bl [scW G b x]) ∧ v9_ = some (.int (nI (sumN 48 (scG x))))) := by
  refine Ctr.int (cc := cX2_marked) (maxL := 3) (ret := (some .int)) (lv0 := [some (.ref (b 0)), none, none]) (by decide) rfl rfl rfl (Nat.le_of_ble_eq_true rfl) rfl (fun A X E hend => ?_)
  refine V.iconst (v := nI (0)) E dX2_marked_0 (by decide) ?_
  refine V.istore_n (lv' := [some (.ref (b 0)), some (.int (nI (0))), none]) E dX2_marked_1 rfl (Nat.le_of_ble_eq_true rfl) rfl rfl ?_
  refine V.iconst (v := nI (0)) E dX2_marked_2 (by decide) ?_
  refine V.istore_n (lv' := [some (.ref (b 0)), some (.int (nI (0))), some (.int (nI (0)))]) E dX2_marked_3 rfl (Nat.le_of_ble_eq_true rfl) rfl rfl ?_
  refine V.locN (b := sumN 0 (scG x)) (lv' := [some (.ref (b 0)), some (.int (nI (sumN 0 (scG x)))), some (.int (nI (0)))]) 1 (rfl) rfl rfl ?_
  refine loopN (P := fun i4 => V G A X rm_c_X2_marked (bl [scW G b x]) 0 0 4 [some (.ref (b 0)), some (.int (nI (sumN i4 (scG x)))), some (.int (nI (i4)))] []) 48 (fun i4 hi_4 ih_4 => ?_) 0 (Nat.zero_le _)
  refine V.iload_n E dX2_marked_4 rfl rfl ?_
  refine V.bipush (v := nI (48)) E dX2_marked_5 (by decide) ?_
  refine V.icmp_geN (tgt := 28) E (by omega) (by omega) dX2_marked_7 (by decide) (fun q_7 => ?_) (fun q_7 => ?_)
  · obtain rfl : i4 = 48 := by omega
    refine V.iload_n E dX2_marked_28 rfl rfl ?_
    exact hend _ _ _ _ dX2_marked_29 (nrI _) ⟨rfl, rfl⟩
  · refine V.aload_n E dX2_marked_10 rfl rfl ?_
    refine V.getf (C := RX2) (T := TX2) (N := 5) (ref := "GlassSpill$Scene") E 0 2 3 (by decide +kernel) rfl rfl (by decide) (by decide +kernel) rfl rfl dX2_marked_11 ?_
    refine V.iload_n E dX2_marked_14 rfl rfl ?_
    refine V.zaldN (v := nI (scG x i4)) E 4 rfl (by omega) (by decide) (rfl) dX2_marked_15 ?_
    refine V.if_eqN (tgt := 22) E (by have := hx.g i4 (by omega); omega) dX2_marked_16 (by decide) (fun q_16 => ?_) (fun q_16 => ?_)
    · refine V.iincN (lv' := [some (.ref (b 0)), some (.int (nI (sumN i4 (scG x)))), some (.int (nI (i4 + 1)))]) E dX2_marked_22 rfl (Nat.le_of_ble_eq_true rfl) rfl rfl ?_
      refine V.goto (tgt := 4) E dX2_marked_25 (by decide) ?_
      refine V.locN (b := sumN (i4 + 1) (scG x)) (lv' := [some (.ref (b 0)), some (.int (nI (sumN (i4 + 1) (scG x)))), some (.int (nI (i4 + 1)))]) 1 (by have := hx.g i4 (by omega); rw [sumN]; omega) rfl rfl ?_
      exact ih_4 (by omega)
    · refine V.iincN (lv' := [some (.ref (b 0)), some (.int (nI (sumN i4 (scG x) + 1))), some (.int (nI (i4)))]) E dX2_marked_19 rfl (Nat.le_of_ble_eq_true rfl) rfl rfl ?_
      refine V.iincN (lv' := [some (.ref (b 0)), some (.int (nI (sumN i4 (scG x) + 1))), some (.int (nI (i4 + 1)))]) E dX2_marked_22 rfl (Nat.le_of_ble_eq_true rfl) rfl rfl ?_
      refine V.goto (tgt := 4) E dX2_marked_25 (by decide) ?_
      refine V.locN (b := sumN (i4 + 1) (scG x)) (lv' := [some (.ref (b 0)), some (.int (nI (sumN (i4 + 1) (scG x)))), some (.int (nI (i4 + 1)))]) 1 (by have := hx.g i4 (by omega); rw [sumN]; omega) rfl rfl ?_
      exact ih_4 (by omega)
abbrev rm_c_X3_ofKind : Room := { frames := 0, cells := 0, slots := 0, locals := 0 }
theorem hd_X3_ofKind : yX3_ofKind.cls ≠ "java/lang/invoke/MethodHandle" ∧ yX3_ofKind.cls ≠ "java/lang/invoke/VarHandle" ∧ (parseMethodDescriptor yX3_ofKind.desc).map (fun d => d.parameters.length) = some 1 := by decide +kernel
set_option maxRecDepth 100000 in
set_option maxHeartbeats 8000000 in
theorem c_X3_ofKind (G : VC) (a : Nat → Nat) (r : Nat → Nat) (o : Nat → Nat) (k : Nat → Nat) (s : Nat → Nat) (t : Nat → Nat) (c : Nat → Nat) (m : Nat → Nat) (e : Nat → Nat) (q : Nat → Nat) (n : Nat) (kd : Nat) (hk : ∀ j, j < 48 → k j ≤ 4) (hd : kd < 5) : Ctr yX3_ofKind wsX3_ofKind rm_c_X3_ofKind G [.ref (a 0), .int (nI (kd))] (bl [vwW G a r o k s t c m e q n]) (fun v9_ u9_ => u9_ = (bl [vwW G a r o k s t c m e q n]) ∧ v9_ = some (.int (nI (sumN 48 (fun j => bN (decide (k j = kd))))))) := by
  refine Ctr.int (cc := cX3_ofKind) (maxL := 4) (ret := (some .int)) (lv0 := [some (.ref (a 0)), some (.int (nI (kd))), none, none]) (by decide) rfl rfl rfl (Nat.le_of_ble_eq_true rfl) rfl (fun A X E hend => ?_)
  refine V.iconst (v := nI (0)) E dX3_ofKind_0 (by decide) ?_
  refine V.istore_n (lv' := [some (.ref (a 0)), some (.int (nI (kd))), some (.int (nI (0))), none]) E dX3_ofKind_1 rfl (Nat.le_of_ble_eq_true rfl) rfl rfl ?_
  refine V.iconst (v := nI (0)) E dX3_ofKind_2 (by decide) ?_
  refine V.istore_n (lv' := [some (.ref (a 0)), some (.int (nI (kd))), some (.int (nI (0))), some (.int (nI (0)))]) E dX3_ofKind_3 rfl (Nat.le_of_ble_eq_true rfl) rfl rfl ?_
  refine V.locN (b := sumN 0 (fun j => bN (decide (k j = kd)))) (lv' := [some (.ref (a 0)), some (.int (nI (kd))), some (.int (nI (sumN 0 (fun j => bN (decide (k j = kd)))))), some (.int (nI (0)))]) 2 (rfl) rfl rfl ?_
  refine loopN (P := fun i4 => V G A X rm_c_X3_ofKind (bl [vwW G a r o k s t c m e q n]) 0 0 4 [some (.ref (a 0)), some (.int (nI (kd))), some (.int (nI (sumN i4 (fun j => bN (decide (k j = kd)))))), some (.int (nI (i4)))] []) 48 (fun i4 hi_4 ih_4 => ?_) 0 (Nat.zero_le _)
  refine V.iload_n E dX3_ofKind_4 rfl rfl ?_
  refine V.bipush (v := nI (48)) E dX3_ofKind_5 (by decide) ?_
  refine V.icmp_geN (tgt := 29) E (by omega) (by omega) dX3_ofKind_7 (by decide) (fun q_7 => ?_) (fun q_7 => ?_)
  · obtain rfl : i4 = 48 := by omega
    refine V.iload_n E dX3_ofKind_29 rfl rfl ?_
    exact hend _ _ _ _ dX3_ofKind_30 (nrI _) ⟨rfl, rfl⟩
  · refine V.aload_n E dX3_ofKind_10 rfl rfl ?_
    refine V.getf (C := RX3) (T := TX3) (N := 10) (ref := "GlassSpill$View") E 0 3 2 (by decide +kernel) rfl rfl (by decide) (by decide +kernel) rfl rfl dX3_ofKind_11 ?_
    refine V.iload_n E dX3_ofKind_14 rfl rfl ?_
    refine V.ialdN (v := nI (k i4)) E 3 rfl (by omega) (by decide) (rfl) dX3_ofKind_15 ?_
    refine V.iload_n E dX3_ofKind_16 rfl rfl ?_
    refine V.icmp_neN (tgt := 23) E (Nat.lt_of_le_of_lt (hk _ (by omega)) (by decide)) (by omega) dX3_ofKind_17 (by decide) (fun q_17 => ?_) (fun q_17 => ?_)
    · refine V.iincN (lv' := [some (.ref (a 0)), some (.int (nI (kd))), some (.int (nI (sumN i4 (fun j => bN (decide (k j = kd)))))), some (.int (nI (i4 + 1)))]) E dX3_ofKind_23 rfl (Nat.le_of_ble_eq_true rfl) rfl rfl ?_
      refine V.goto (tgt := 4) E dX3_ofKind_26 (by decide) ?_
      refine V.locN (b := sumN (i4 + 1) (fun j => bN (decide (k j = kd)))) (lv' := [some (.ref (a 0)), some (.int (nI (kd))), some (.int (nI (sumN (i4 + 1) (fun j => bN (decide (k j = kd)))))), some (.int (nI (i4 + 1)))]) 2 (by simp [sumN, bN, q_17]) rfl rfl ?_
      exact ih_4 (by omega)
    · refine V.iincN (lv' := [some (.ref (a 0)), some (.int (nI (kd))), some (.int (nI (sumN i4 (fun j => bN (decide (k j = kd))) + 1))), some (.int (nI (i4)))]) E dX3_ofKind_20 rfl (Nat.le_of_ble_eq_true rfl) rfl rfl ?_
      refine V.iincN (lv' := [some (.ref (a 0)), some (.int (nI (kd))), some (.int (nI (sumN i4 (fun j => bN (decide (k j = kd))) + 1))), some (.int (nI (i4 + 1)))]) E dX3_ofKind_23 rfl (Nat.le_of_ble_eq_true rfl) rfl rfl ?_
      refine V.goto (tgt := 4) E dX3_ofKind_26 (by decide) ?_
      refine V.locN (b := sumN (i4 + 1) (fun j => bN (decide (k j = kd)))) (lv' := [some (.ref (a 0)), some (.int (nI (kd))), some (.int (nI (sumN (i4 + 1) (fun j => bN (decide (k j = kd)))))), some (.int (nI (i4 + 1)))]) 2 (by simp [sumN, bN, q_17]) rfl rfl ?_
      exact ih_4 (by omega)
abbrev rm_c_X3_closed : Room := { frames := 0, cells := 0, slots := 0, locals := 0 }
theorem hd_X3_closed : yX3_closed.cls ≠ "java/lang/invoke/MethodHandle" ∧ yX3_closed.cls ≠ "java/lang/invoke/VarHandle" ∧ (parseMethodDescriptor yX3_closed.desc).map (fun d => d.parameters.length) = some 0 := by decide +kernel
set_option maxRecDepth 100000 in
set_option maxHeartbeats 8000000 in
theorem c_X3_closed (G : VC) (a : Nat → Nat) (r : Nat → Nat) (o : Nat → Nat) (k : Nat → Nat) (s : Nat → Nat) (t : Nat → Nat) (c : Nat → Nat) (m : Nat → Nat) (e : Nat → Nat) (q : Nat → Nat) (n : Nat) (ho : ∀ j, j < 48 → o j ≤ 16) (hr : ∀ j, j < 48 → r j ≤ 16) : Ctr yX3_closed wsX3_closed rm_c_X3_closed G [.ref (a 0)] (bl [vwW G a r o k s t c m e q n]) (fun v9_ u9_ => u9_ = (bl [vwW G a r o k s t c m e q n]) ∧ v9_ = some (.int (nI (sumN 48 (fun j => bN (!decide (o j = r j))))))) := by
  refine Ctr.int (cc := cX3_closed) (maxL := 3) (ret := (some .int)) (lv0 := [some (.ref (a 0)), none, none]) (by decide) rfl rfl rfl (Nat.le_of_ble_eq_true rfl) rfl (fun A X E hend => ?_)
  refine V.iconst (v := nI (0)) E dX3_closed_0 (by decide) ?_
  refine V.istore_n (lv' := [some (.ref (a 0)), some (.int (nI (0))), none]) E dX3_closed_1 rfl (Nat.le_of_ble_eq_true rfl) rfl rfl ?_
  refine V.iconst (v := nI (0)) E dX3_closed_2 (by decide) ?_
  refine V.istore_n (lv' := [some (.ref (a 0)), some (.int (nI (0))), some (.int (nI (0)))]) E dX3_closed_3 rfl (Nat.le_of_ble_eq_true rfl) rfl rfl ?_
  refine V.locN (b := sumN 0 (fun j => bN (!decide (o j = r j)))) (lv' := [some (.ref (a 0)), some (.int (nI (sumN 0 (fun j => bN (!decide (o j = r j)))))), some (.int (nI (0)))]) 1 (rfl) rfl rfl ?_
  refine loopN (P := fun i4 => V G A X rm_c_X3_closed (bl [vwW G a r o k s t c m e q n]) 0 0 4 [some (.ref (a 0)), some (.int (nI (sumN i4 (fun j => bN (!decide (o j = r j)))))), some (.int (nI (i4)))] []) 48 (fun i4 hi_4 ih_4 => ?_) 0 (Nat.zero_le _)
  refine V.iload_n E dX3_closed_4 rfl rfl ?_
  refine V.bipush (v := nI (48)) E dX3_closed_5 (by decide) ?_
  refine V.icmp_geN (tgt := 34) E (by omega) (by omega) dX3_closed_7 (by decide) (fun q_7 => ?_) (fun q_7 => ?_)
  · obtain rfl : i4 = 48 := by omega
    refine V.iload_n E dX3_closed_34 rfl rfl ?_
    exact hend _ _ _ _ dX3_closed_35 (nrI _) ⟨rfl, rfl⟩
  · refine V.aload_n E dX3_closed_10 rfl rfl ?_
    refine V.getf (C := RX3) (T := TX3) (N := 10) (ref := "GlassSpill$View") E 0 3 1 (by decide +kernel) rfl rfl (by decide) (by decide +kernel) rfl rfl dX3_closed_11 ?_
    refine V.iload_n E dX3_closed_14 rfl rfl ?_
    refine V.ialdN (v := nI (o i4)) E 2 rfl (by omega) (by decide) (rfl) dX3_closed_15 ?_
    refine V.aload_n E dX3_closed_16 rfl rfl ?_
    refine V.getf (C := RX3) (T := TX3) (N := 10) (ref := "GlassSpill$View") E 0 3 0 (by decide +kernel) rfl rfl (by decide) (by decide +kernel) rfl rfl dX3_closed_17 ?_
    refine V.iload_n E dX3_closed_20 rfl rfl ?_
    refine V.ialdN (v := nI (r i4)) E 1 rfl (by omega) (by decide) (rfl) dX3_closed_21 ?_
    refine V.icmp_eqN (tgt := 28) E (Nat.lt_of_le_of_lt (ho _ (by omega)) (by decide)) (Nat.lt_of_le_of_lt (hr _ (by omega)) (by decide)) dX3_closed_22 (by decide) (fun q_22 => ?_) (fun q_22 => ?_)
    · refine V.iincN (lv' := [some (.ref (a 0)), some (.int (nI (sumN i4 (fun j => bN (!decide (o j = r j)))))), some (.int (nI (i4 + 1)))]) E dX3_closed_28 rfl (Nat.le_of_ble_eq_true rfl) rfl rfl ?_
      refine V.goto (tgt := 4) E dX3_closed_31 (by decide) ?_
      refine V.locN (b := sumN (i4 + 1) (fun j => bN (!decide (o j = r j)))) (lv' := [some (.ref (a 0)), some (.int (nI (sumN (i4 + 1) (fun j => bN (!decide (o j = r j)))))), some (.int (nI (i4 + 1)))]) 1 (by simp [sumN, bN, q_22]) rfl rfl ?_
      exact ih_4 (by omega)
    · refine V.iincN (lv' := [some (.ref (a 0)), some (.int (nI (sumN i4 (fun j => bN (!decide (o j = r j))) + 1))), some (.int (nI (i4)))]) E dX3_closed_25 rfl (Nat.le_of_ble_eq_true rfl) rfl rfl ?_
      refine V.iincN (lv' := [some (.ref (a 0)), some (.int (nI (sumN i4 (fun j => bN (!decide (o j = r j))) + 1))), some (.int (nI (i4 + 1)))]) E dX3_closed_28 rfl (Nat.le_of_ble_eq_true rfl) rfl rfl ?_
      refine V.goto (tgt := 4) E dX3_closed_31 (by decide) ?_
      refine V.locN (b := sumN (i4 + 1) (fun j => bN (!decide (o j = r j)))) (lv' := [some (.ref (a 0)), some (.int (nI (sumN (i4 + 1) (fun j => bN (!decide (o j = r j)))))), some (.int (nI (i4 + 1)))]) 1 (by simp [sumN, bN, q_22]) rfl rfl ?_
      exact ih_4 (by omega)
abbrev rm_c_X3_spillLeft : Room := { frames := 3, cells := 0, slots := 0, locals := 64 }
theorem hd_X3_spillLeft : yX3_spillLeft.cls ≠ "java/lang/invoke/MethodHandle" ∧ yX3_spillLeft.cls ≠ "java/lang/invoke/VarHandle" ∧ (parseMethodDescriptor yX3_spillLeft.desc).map (fun d => d.parameters.length) = some 1 := by decide +kernel
set_option maxRecDepth 100000 in
set_option maxHeartbeats 8000000 in
theorem c_X3_spillLeft (G : VC) (a : Nat → Nat) (r : Nat → Nat) (o : Nat → Nat) (k : Nat → Nat) (s : Nat → Nat) (t : Nat → Nat) (c : Nat → Nat) (m : Nat → Nat) (e : Nat → Nat) (q : Nat → Nat) (n : Nat) (b : Nat → Nat) (x : SC) (hm : ∀ j, j < 48 → m j < 4096) (hx : SInv x) : Ctr yX3_spillLeft wsX3_spillLeft rm_c_X3_spillLeft G [.ref (a 0), .ref (b 0)] (bl [vwW G a r o k s t c m e q n, scW G b x]) (fun v9_ u9_ => u9_ = (bl [vwW G a r o k s t c m e q n, scW G b x]) ∧ v9_ = some (.int (nI (sumN 48 (fun j => spl (m j) (mainP (scC x))))))) := by
  refine Ctr.int (cc := cX3_spillLeft) (maxL := 5) (ret := (some .int)) (lv0 := [some (.ref (a 0)), some (.ref (b 0)), none, none, none]) (by decide) rfl rfl rfl (Nat.le_of_ble_eq_true rfl) rfl (fun A X E hend => ?_)
  refine V.aload_n E dX3_spillLeft_0 rfl rfl ?_
  refine V.getf (C := RX2) (T := TX2) (N := 5) (ref := "GlassSpill$Scene") E 10 2 4 (by decide +kernel) rfl rfl (by decide) (by decide +kernel) rfl rfl dX3_spillLeft_1 ?_
  refine V.callSN (host := "GlassSpill")  E (c_X4_mainPart G (scC x) (hx.c)) (bl [vwW G a r o k s t c m e q n, scW G b x]) [] gX3_spillLeft_X4_mainPart_n62 rfl (by decide +kernel) (by decide +kernel) (by decide +kernel) hd_X4_mainPart ⟨⟨Nat.le_of_ble_eq_true rfl, Nat.le_of_ble_eq_true rfl⟩, Nat.le_of_ble_eq_true rfl, Nat.le_of_ble_eq_true rfl⟩ rfl (Nat.le_of_ble_eq_true rfl) rfl dX3_spillLeft_4 (List.Perm.refl _) (kc' := 0) (ks' := 0) rfl rfl (rwI (ws' := (bl [vwW G a r o k s t c m e q n, scW G b x])) (List.Perm.refl _) ?_)
  refine V.istore_n (lv' := [some (.ref (a 0)), some (.ref (b 0)), some (.int (nI (mainP (scC x)))), none, none]) E dX3_spillLeft_7 rfl (Nat.le_of_ble_eq_true rfl) rfl rfl ?_
  refine V.iconst (v := nI (0)) E dX3_spillLeft_8 (by decide) ?_
  refine V.istore_n (lv' := [some (.ref (a 0)), some (.ref (b 0)), some (.int (nI (mainP (scC x)))), some (.int (nI (0))), none]) E dX3_spillLeft_9 rfl (Nat.le_of_ble_eq_true rfl) rfl rfl ?_
  refine V.iconst (v := nI (0)) E dX3_spillLeft_10 (by decide) ?_
  refine V.istore (lv' := [some (.ref (a 0)), some (.ref (b 0)), some (.int (nI (mainP (scC x)))), some (.int (nI (0))), some (.int (nI (0)))]) E dX3_spillLeft_11 (Nat.le_of_ble_eq_true rfl) rfl rfl ?_
  refine V.locN (b := sumN 0 (fun j => spl (m j) (mainP (scC x)))) (lv' := [some (.ref (a 0)), some (.ref (b 0)), some (.int (nI (mainP (scC x)))), some (.int (nI (sumN 0 (fun j => spl (m j) (mainP (scC x)))))), some (.int (nI (0)))]) 3 (rfl) rfl rfl ?_
  refine loopN (P := fun i13 => V G A X rm_c_X3_spillLeft (bl [vwW G a r o k s t c m e q n, scW G b x]) 0 0 13 [some (.ref (a 0)), some (.ref (b 0)), some (.int (nI (mainP (scC x)))), some (.int (nI (sumN i13 (fun j => spl (m j) (mainP (scC x)))))), some (.int (nI (i13)))] []) 48 (fun i13 hi_13 ih_13 => ?_) 0 (Nat.zero_le _)
  refine V.iload E dX3_spillLeft_13 rfl ?_
  refine V.bipush (v := nI (48)) E dX3_spillLeft_15 (by decide) ?_
  refine V.icmp_geN (tgt := 40) E (by omega) (by omega) dX3_spillLeft_17 (by decide) (fun q_17 => ?_) (fun q_17 => ?_)
  · obtain rfl : i13 = 48 := by omega
    refine V.iload_n E dX3_spillLeft_40 rfl rfl ?_
    exact hend _ _ _ _ dX3_spillLeft_41 (nrI _) ⟨rfl, rfl⟩
  · refine V.iload_n E dX3_spillLeft_20 rfl rfl ?_
    refine V.aload_n E dX3_spillLeft_21 rfl rfl ?_
    refine V.getf (C := RX3) (T := TX3) (N := 10) (ref := "GlassSpill$View") E 0 3 6 (by decide +kernel) rfl rfl (by decide) (by decide +kernel) rfl rfl dX3_spillLeft_22 ?_
    refine V.iload E dX3_spillLeft_25 rfl ?_
    refine V.ialdN (v := nI (m i13)) E 7 rfl (by omega) (by decide) (rfl) dX3_spillLeft_27 ?_
    refine V.iload_n E dX3_spillLeft_28 rfl rfl ?_
    refine V.callSN (host := "GlassSpill")  E (c_X4_spillIn G (m i13) (mainP (scC x)) (hm _ (by omega)) (mainP_lt _)) (bl [vwW G a r o k s t c m e q n, scW G b x]) [.int (nI (sumN i13 (fun j => spl (m j) (mainP (scC x)))))] gX3_spillLeft_X4_spillIn_n66 rfl (by decide +kernel) (by decide +kernel) (by decide +kernel) hd_X4_spillIn ⟨⟨Nat.le_of_ble_eq_true rfl, Nat.le_of_ble_eq_true rfl⟩, Nat.le_of_ble_eq_true rfl, Nat.le_of_ble_eq_true rfl⟩ rfl (Nat.le_of_ble_eq_true rfl) rfl dX3_spillLeft_29 (List.Perm.refl _) (kc' := 0) (ks' := 0) rfl rfl (rwI (ws' := (bl [vwW G a r o k s t c m e q n, scW G b x])) (List.Perm.refl _) ?_)
    refine V.iaddN E  dX3_spillLeft_32 ?_
    refine V.istore_n (lv' := [some (.ref (a 0)), some (.ref (b 0)), some (.int (nI (mainP (scC x)))), some (.int (nI ((sumN i13 (fun j => spl (m j) (mainP (scC x)))) + (spl (m i13) (mainP (scC x)))))), some (.int (nI (i13)))]) E dX3_spillLeft_33 rfl (Nat.le_of_ble_eq_true rfl) rfl rfl ?_
    refine V.iincN (lv' := [some (.ref (a 0)), some (.ref (b 0)), some (.int (nI (mainP (scC x)))), some (.int (nI ((sumN i13 (fun j => spl (m j) (mainP (scC x)))) + (spl (m i13) (mainP (scC x)))))), some (.int (nI (i13 + 1)))]) E dX3_spillLeft_34 rfl (Nat.le_of_ble_eq_true rfl) rfl rfl ?_
    refine V.goto (tgt := 13) E dX3_spillLeft_37 (by decide) ?_
    refine V.locN (b := sumN (i13 + 1) (fun j => spl (m j) (mainP (scC x)))) (lv' := [some (.ref (a 0)), some (.ref (b 0)), some (.int (nI (mainP (scC x)))), some (.int (nI (sumN (i13 + 1) (fun j => spl (m j) (mainP (scC x)))))), some (.int (nI (i13 + 1)))]) 3 (rfl) rfl rfl ?_
    exact ih_13 (by omega)
abbrev rm_c_X3_rawOpaque : Room := { frames := 0, cells := 0, slots := 0, locals := 0 }
theorem hd_X3_rawOpaque : yX3_rawOpaque.cls ≠ "java/lang/invoke/MethodHandle" ∧ yX3_rawOpaque.cls ≠ "java/lang/invoke/VarHandle" ∧ (parseMethodDescriptor yX3_rawOpaque.desc).map (fun d => d.parameters.length) = some 3 := by decide +kernel
set_option maxRecDepth 100000 in
set_option maxHeartbeats 8000000 in
theorem c_X3_rawOpaque (G : VC) (d : Nat) (near : Nat) (far : Nat) (hn : near < far) (hf : far ≤ 45) (hd : d ≤ 45) : Ctr yX3_rawOpaque wsX3_rawOpaque rm_c_X3_rawOpaque G [.int (nI (d)), .int (nI (near)), .int (nI (far))] (bl []) (fun v9_ u9_ => u9_ = (bl []) ∧ v9_ = some (.int (nI (rawV near far d)))) := by
  refine Ctr.int (cc := cX3_rawOpaque) (maxL := 3) (ret := (some .int)) (lv0 := [some (.int (nI (d))), some (.int (nI (near))), some (.int (nI (far)))]) (by decide) rfl rfl rfl (Nat.le_of_ble_eq_true rfl) rfl (fun A X E hend => ?_)
  refine V.iload_n E dX3_rawOpaque_0 rfl rfl ?_
  refine V.iload_n E dX3_rawOpaque_1 rfl rfl ?_
  refine V.icmp_gtN (tgt := 7) E (by omega) (by omega) dX3_rawOpaque_2 (by decide) (fun q_2 => ?_) (fun q_2 => ?_)
  · refine V.iload_n E dX3_rawOpaque_7 rfl rfl ?_
    refine V.iload_n E dX3_rawOpaque_8 rfl rfl ?_
    refine V.icmp_ltN (tgt := 15) E (by omega) (by omega) dX3_rawOpaque_9 (by decide) (fun q_9 => ?_) (fun q_9 => ?_)
    · refine V.bipush (v := nI (16)) E dX3_rawOpaque_15 (by decide) ?_
      refine V.iload_n E dX3_rawOpaque_17 rfl rfl ?_
      refine V.iload_n E dX3_rawOpaque_18 rfl rfl ?_
      refine V.isubN E (by omega) dX3_rawOpaque_19 ?_
      refine V.imulN E  dX3_rawOpaque_20 ?_
      refine V.iload_n E dX3_rawOpaque_21 rfl rfl ?_
      refine V.iload_n E dX3_rawOpaque_22 rfl rfl ?_
      refine V.isubN E (by omega) dX3_rawOpaque_23 ?_
      refine V.idivN E (by omega) (by omega) (by omega) dX3_rawOpaque_24 ?_
      refine V.topN (b := rawV near far d) (by unfold rawV; first | rw [if_pos (by omega)] | rw [if_neg (by omega), if_pos (by omega)] | rw [if_neg (by omega), if_neg (by omega)]) ?_
      exact hend _ _ _ _ dX3_rawOpaque_25 (nrI _) ⟨rfl, rfl⟩
    · refine V.bipush (v := nI (16)) E dX3_rawOpaque_12 (by decide) ?_
      refine V.topN (b := rawV near far d) (by unfold rawV; first | rw [if_pos (by omega)] | rw [if_neg (by omega), if_pos (by omega)] | rw [if_neg (by omega), if_neg (by omega)]) ?_
      exact hend _ _ _ _ dX3_rawOpaque_14 (nrI _) ⟨rfl, rfl⟩
  · refine V.iconst (v := nI (0)) E dX3_rawOpaque_5 (by decide) ?_
    refine V.topN (b := rawV near far d) (by unfold rawV; first | rw [if_pos (by omega)] | rw [if_neg (by omega), if_pos (by omega)] | rw [if_neg (by omega), if_neg (by omega)]) ?_
    exact hend _ _ _ _ dX3_rawOpaque_6 (nrI _) ⟨rfl, rfl⟩
abbrev rm_c_X3_share : Room := { frames := 0, cells := 0, slots := 0, locals := 0 }
theorem hd_X3_share : yX3_share.cls ≠ "java/lang/invoke/MethodHandle" ∧ yX3_share.cls ≠ "java/lang/invoke/VarHandle" ∧ (parseMethodDescriptor yX3_share.desc).map (fun d => d.parameters.length) = some 2 := by decide +kernel
set_option maxRecDepth 100000 in
set_option maxHeartbeats 8000000 in
theorem c_X3_share (G : VC) (b : Nat → Nat) (x : SC) (kd : Nat) (hd : kd ≤ 4) : Ctr yX3_share wsX3_share rm_c_X3_share G [.ref (b 0), .int (nI (kd))] (bl [scW G b x]) (fun v9_ u9_ => u9_ = (bl [scW G b x]) ∧ v9_ = some (.int (nI (shr x kd)))) := by
  refine Ctr.int (cc := cX3_share) (maxL := 2) (ret := (some .int)) (lv0 := [some (.ref (b 0)), some (.int (nI (kd)))]) (by decide) rfl rfl rfl (Nat.le_of_ble_eq_true rfl) rfl (fun A X E hend => ?_)
  refine V.iload_n E dX3_share_0 rfl rfl ?_
  rcases (show kd = 0 ∨ kd = 1 ∨ kd = 2 ∨ kd = 3 ∨ kd = 4 by omega) with rfl | rfl | rfl | rfl | rfl
  · refine V.tableOut (tgt := 53) E dX3_share_1 (by decide) (by decide) ?_
    refine V.iconst (v := nI (0)) E dX3_share_53 (by decide) ?_
    refine V.topN (b := shr x 0) (rfl) ?_
    exact hend _ _ _ _ dX3_share_54 (nrI _) ⟨rfl, rfl⟩
  · refine V.tableIn (off := 31) (tgt := 32) E dX3_share_1 (by decide) (by decide) (by decide) (by decide) ?_
    refine V.aload_n E dX3_share_32 rfl rfl ?_
    refine V.getf (C := RX2) (T := TX2) (N := 5) (ref := "GlassSpill$Scene") E 0 2 0 (by decide +kernel) rfl rfl (by decide) (by decide +kernel) rfl rfl dX3_share_33 ?_
    refine V.iconst (v := nI (2)) E dX3_share_36 (by decide) ?_
    refine V.ialdN (v := nI (scS x 2)) E 1 rfl (by omega) (by decide) (rfl) dX3_share_37 ?_
    refine V.topN (b := shr x 1) (rfl) ?_
    exact hend _ _ _ _ dX3_share_38 (nrI _) ⟨rfl, rfl⟩
  · refine V.tableIn (off := 38) (tgt := 39) E dX3_share_1 (by decide) (by decide) (by decide) (by decide) ?_
    refine V.aload_n E dX3_share_39 rfl rfl ?_
    refine V.getf (C := RX2) (T := TX2) (N := 5) (ref := "GlassSpill$Scene") E 0 2 0 (by decide +kernel) rfl rfl (by decide) (by decide +kernel) rfl rfl dX3_share_40 ?_
    refine V.iconst (v := nI (3)) E dX3_share_43 (by decide) ?_
    refine V.ialdN (v := nI (scS x 3)) E 1 rfl (by omega) (by decide) (rfl) dX3_share_44 ?_
    refine V.topN (b := shr x 2) (rfl) ?_
    exact hend _ _ _ _ dX3_share_45 (nrI _) ⟨rfl, rfl⟩
  · refine V.tableIn (off := 31) (tgt := 32) E dX3_share_1 (by decide) (by decide) (by decide) (by decide) ?_
    refine V.aload_n E dX3_share_32 rfl rfl ?_
    refine V.getf (C := RX2) (T := TX2) (N := 5) (ref := "GlassSpill$Scene") E 0 2 0 (by decide +kernel) rfl rfl (by decide) (by decide +kernel) rfl rfl dX3_share_33 ?_
    refine V.iconst (v := nI (2)) E dX3_share_36 (by decide) ?_
    refine V.ialdN (v := nI (scS x 2)) E 1 rfl (by omega) (by decide) (rfl) dX3_share_37 ?_
    refine V.topN (b := shr x 3) (rfl) ?_
    exact hend _ _ _ _ dX3_share_38 (nrI _) ⟨rfl, rfl⟩
  · refine V.tableIn (off := 45) (tgt := 46) E dX3_share_1 (by decide) (by decide) (by decide) (by decide) ?_
    refine V.aload_n E dX3_share_46 rfl rfl ?_
    refine V.getf (C := RX2) (T := TX2) (N := 5) (ref := "GlassSpill$Scene") E 0 2 0 (by decide +kernel) rfl rfl (by decide) (by decide +kernel) rfl rfl dX3_share_47 ?_
    refine V.iconst (v := nI (4)) E dX3_share_50 (by decide) ?_
    refine V.ialdN (v := nI (scS x 4)) E 1 rfl (by omega) (by decide) (rfl) dX3_share_51 ?_
    refine V.topN (b := shr x 4) (rfl) ?_
    exact hend _ _ _ _ dX3_share_52 (nrI _) ⟨rfl, rfl⟩
abbrev rm_c_X3_reach : Room := { frames := 1, cells := 0, slots := 0, locals := 20 }
theorem hd_X3_reach : yX3_reach.cls ≠ "java/lang/invoke/MethodHandle" ∧ yX3_reach.cls ≠ "java/lang/invoke/VarHandle" ∧ (parseMethodDescriptor yX3_reach.desc).map (fun d => d.parameters.length) = some 1 := by decide +kernel
set_option maxRecDepth 100000 in
set_option maxHeartbeats 8000000 in
theorem c_X3_reach (G : VC) (a : Nat → Nat) (r : Nat → Nat) (o : Nat → Nat) (k : Nat → Nat) (s : Nat → Nat) (t : Nat → Nat) (c : Nat → Nat) (m : Nat → Nat) (z : GZ) (x : Int32) (hr : ∀ j, j < 48 → r j ≤ 16) (he : ∀ j, j < 48 → z.1 j ≤ 1) (hn : z.2.2 ≤ 48) : Ctr yX3_reach wsX3_reach rm_c_X3_reach G [.ref (a 0), .int (x)] (bl [vwW G a r o k s t c m z.1 z.2.1 z.2.2]) (fun v9_ u9_ => u9_ = (bl [vwW G a r o k s t c m ((rc r x z).1) ((rc r x z).2.1) ((rc r x z).2.2)]) ∧ v9_ = none) := by
  refine Ctr.void (cc := cX3_reach) (maxL := 2) (lv0 := [some (.ref (a 0)), some (.int (x))]) (by decide) rfl rfl rfl (Nat.le_of_ble_eq_true rfl) (fun A X E hinit hend => ?_)
  refine V.iload_n E dX3_reach_0 rfl rfl ?_
  refine V.callSN (host := "GlassSpill")  E (c_X4_isPixel G x ) (bl [vwW G a r o k s t c m z.1 z.2.1 z.2.2]) [] gX3_reach_X4_isPixel_n97 rfl (by decide +kernel) (by decide +kernel) (by decide +kernel) hd_X4_isPixel ⟨⟨Nat.le_of_ble_eq_true rfl, Nat.le_of_ble_eq_true rfl⟩, Nat.le_of_ble_eq_true rfl, Nat.le_of_ble_eq_true rfl⟩ rfl (Nat.le_of_ble_eq_true rfl) rfl dX3_reach_1 (List.Perm.refl _) (kc' := 0) (ks' := 0) rfl rfl (rwI (ws' := (bl [vwW G a r o k s t c m z.1 z.2.1 z.2.2])) (List.Perm.refl _) ?_)
  refine V.if_eqB (tgt := 63) E dX3_reach_4 (by decide) (fun q_4 => ?_) (fun q_4 => ?_)
  · exact hend _ _ _ dX3_reach_63 (by first | exact ⟨congrArg (fun w : GZ => bl [vwW G a r o k s t c m w.1 w.2.1 w.2.2]) (rc_n1 q_4).symm, rfl⟩ | exact ⟨congrArg (fun w : GZ => bl [vwW G a r o k s t c m w.1 w.2.1 w.2.2]) (rc_n2 hp (by omega)).symm, rfl⟩ | exact ⟨congrArg (fun w : GZ => bl [vwW G a r o k s t c m w.1 w.2.1 w.2.2]) (rc_y hp (by omega) (by omega) (by omega)).symm, rfl⟩)
  · obtain ⟨p, hp, rfl⟩ := okI_t q_4 (by decide)
    refine V.aload_n E dX3_reach_7 rfl rfl ?_
    refine V.getf (C := RX3) (T := TX3) (N := 10) (ref := "GlassSpill$View") E 0 3 0 (by decide +kernel) rfl rfl (by decide) (by decide +kernel) rfl rfl dX3_reach_8 ?_
    refine V.iload_n E dX3_reach_11 rfl rfl ?_
    refine V.ialdN (v := nI (r p)) E 1 rfl (by omega) (by decide) (rfl) dX3_reach_12 ?_
    refine V.bipush (v := nI (16)) E dX3_reach_13 (by decide) ?_
    refine V.icmp_geN (tgt := 63) E (Nat.lt_of_le_of_lt (hr p hp) (by decide)) (by omega) dX3_reach_15 (by decide) (fun q_15 => ?_) (fun q_15 => ?_)
    · exact hend _ _ _ dX3_reach_63 (by first | exact ⟨congrArg (fun w : GZ => bl [vwW G a r o k s t c m w.1 w.2.1 w.2.2]) (rc_n1 q_4).symm, rfl⟩ | exact ⟨congrArg (fun w : GZ => bl [vwW G a r o k s t c m w.1 w.2.1 w.2.2]) (rc_n2 hp (by omega)).symm, rfl⟩ | exact ⟨congrArg (fun w : GZ => bl [vwW G a r o k s t c m w.1 w.2.1 w.2.2]) (rc_y hp (by omega) (by omega) (by omega)).symm, rfl⟩)
    · refine V.aload_n E dX3_reach_18 rfl rfl ?_
      refine V.getf (C := RX3) (T := TX3) (N := 10) (ref := "GlassSpill$View") E 0 3 7 (by decide +kernel) rfl rfl (by decide) (by decide +kernel) rfl rfl dX3_reach_19 ?_
      refine V.iload_n E dX3_reach_22 rfl rfl ?_
      refine V.zaldN (v := nI (z.1 p)) E 8 rfl (by omega) (by decide) (rfl) dX3_reach_23 ?_
      refine V.if_neN (tgt := 63) E ((Nat.lt_of_le_of_lt (he p hp) (by decide))) dX3_reach_24 (by decide) (fun q_24 => ?_) (fun q_24 => ?_)
      · exact hend _ _ _ dX3_reach_63 (by first | exact ⟨congrArg (fun w : GZ => bl [vwW G a r o k s t c m w.1 w.2.1 w.2.2]) (rc_n1 q_4).symm, rfl⟩ | exact ⟨congrArg (fun w : GZ => bl [vwW G a r o k s t c m w.1 w.2.1 w.2.2]) (rc_n2 hp (by omega)).symm, rfl⟩ | exact ⟨congrArg (fun w : GZ => bl [vwW G a r o k s t c m w.1 w.2.1 w.2.2]) (rc_y hp (by omega) (by omega) (by omega)).symm, rfl⟩)
      · refine V.aload_n E dX3_reach_27 rfl rfl ?_
        refine V.getf (C := RX3) (T := TX3) (N := 10) (ref := "GlassSpill$View") E 0 3 9 (by decide +kernel) rfl rfl (by decide) (by decide +kernel) rfl rfl dX3_reach_28 ?_
        refine V.bipush (v := nI (48)) E dX3_reach_31 (by decide) ?_
        refine V.icmp_geN (tgt := 63) E (by omega) (by omega) dX3_reach_33 (by decide) (fun q_33 => ?_) (fun q_33 => ?_)
        · exact hend _ _ _ dX3_reach_63 (by first | exact ⟨congrArg (fun w : GZ => bl [vwW G a r o k s t c m w.1 w.2.1 w.2.2]) (rc_n1 q_4).symm, rfl⟩ | exact ⟨congrArg (fun w : GZ => bl [vwW G a r o k s t c m w.1 w.2.1 w.2.2]) (rc_n2 hp (by omega)).symm, rfl⟩ | exact ⟨congrArg (fun w : GZ => bl [vwW G a r o k s t c m w.1 w.2.1 w.2.2]) (rc_y hp (by omega) (by omega) (by omega)).symm, rfl⟩)
        · refine V.aload_n E dX3_reach_36 rfl rfl ?_
          refine V.getf (C := RX3) (T := TX3) (N := 10) (ref := "GlassSpill$View") E 0 3 7 (by decide +kernel) rfl rfl (by decide) (by decide +kernel) rfl rfl dX3_reach_37 ?_
          refine V.iload_n E dX3_reach_40 rfl rfl ?_
          refine V.iconst (v := nI (1)) E dX3_reach_41 (by decide) ?_
          refine V.zastN (f' := nA (upN z.1 p 1)) (ws' := (bl [vwW G a r o k s t c m (upN z.1 p 1) z.2.1 z.2.2])) E 8 rfl (by omega) (by decide) dX3_reach_42 (rfl) (fun j _ => upN_a j) rfl ?_
          refine V.aload_n E dX3_reach_43 rfl rfl ?_
          refine V.getf (C := RX3) (T := TX3) (N := 10) (ref := "GlassSpill$View") E 0 3 8 (by decide +kernel) rfl rfl (by decide) (by decide +kernel) rfl rfl dX3_reach_44 ?_
          refine V.aload_n E dX3_reach_47 rfl rfl ?_
          refine V.getf (C := RX3) (T := TX3) (N := 10) (ref := "GlassSpill$View") E 0 3 9 (by decide +kernel) rfl rfl (by decide) (by decide +kernel) rfl rfl dX3_reach_48 ?_
          refine V.iload_n E dX3_reach_51 rfl rfl ?_
          refine V.iastN (f' := nA (upN z.2.1 z.2.2 p)) (ws' := (bl [vwW G a r o k s t c m (upN z.1 p 1) (upN z.2.1 z.2.2 p) z.2.2])) E 9 rfl (by omega) (by decide) dX3_reach_52 (fun j _ => upN_a j) rfl ?_
          refine V.aload_n E dX3_reach_53 rfl rfl ?_
          refine V.dup E dX3_reach_54 rfl ?_
          refine V.getf (C := RX3) (T := TX3) (N := 10) (ref := "GlassSpill$View") E 0 3 9 (by decide +kernel) rfl rfl (by decide) (by decide +kernel) rfl rfl dX3_reach_55 ?_
          refine V.iconst (v := nI (1)) E dX3_reach_58 (by decide) ?_
          refine V.iaddN E  dX3_reach_59 ?_
          refine V.putf (C := RX3) (T := TX3) (N := 10) (ref := "GlassSpill$View") (ws' := (bl [vwW G a r o k s t c m (upN z.1 p 1) (upN z.2.1 z.2.2 p) (z.2.2 + 1)])) E 0 3 9 (by decide +kernel) tyX3_ok nmX3 rfl rfl (by decide) (by decide +kernel) rfl rfl rfl rfl (Nat.le_of_ble_eq_true rfl) dX3_reach_60 rfl ?_
          exact hend _ _ _ dX3_reach_63 (by first | exact ⟨congrArg (fun w : GZ => bl [vwW G a r o k s t c m w.1 w.2.1 w.2.2]) (rc_n1 q_4).symm, rfl⟩ | exact ⟨congrArg (fun w : GZ => bl [vwW G a r o k s t c m w.1 w.2.1 w.2.2]) (rc_n2 hp (by omega)).symm, rfl⟩ | exact ⟨congrArg (fun w : GZ => bl [vwW G a r o k s t c m w.1 w.2.1 w.2.2]) (rc_y hp (by omega) (by omega) (by omega)).symm, rfl⟩)
abbrev rm_c_X3_reachFromEdge : Room := { frames := 2, cells := 0, slots := 0, locals := 41 }
theorem hd_X3_reachFromEdge : yX3_reachFromEdge.cls ≠ "java/lang/invoke/MethodHandle" ∧ yX3_reachFromEdge.cls ≠ "java/lang/invoke/VarHandle" ∧ (parseMethodDescriptor yX3_reachFromEdge.desc).map (fun d => d.parameters.length) = some 0 := by decide +kernel
set_option maxRecDepth 100000 in
set_option maxHeartbeats 8000000 in
theorem c_X3_reachFromEdge (G : VC) (a : Nat → Nat) (r : Nat → Nat) (o : Nat → Nat) (k : Nat → Nat) (s : Nat → Nat) (t : Nat → Nat) (c : Nat → Nat) (m : Nat → Nat) (e : Nat → Nat) (q : Nat → Nat) (n : Nat) (hr : ∀ j, j < 48 → r j ≤ 16) : Ctr yX3_reachFromEdge wsX3_reachFromEdge rm_c_X3_reachFromEdge G [.ref (a 0)] (bl [vwW G a r o k s t c m e q n]) (fun v9_ u9_ => ∃ z : GZ, u9_ = (bl [vwW G a r o k s t c m z.1 z.2.1 z.2.2]) ∧ v9_ = none ∧ (∀ p, p < 48 → z.1 p ≤ 1 ∧ (z.1 p = 1 ↔ Opn r p))) := by
  refine Ctr.void (cc := cX3_reachFromEdge) (maxL := 3) (lv0 := [some (.ref (a 0)), none, none]) (by decide) rfl rfl rfl (Nat.le_of_ble_eq_true rfl) (fun A X E hinit hend => ?_)
  refine V.aload_n E dX3_reachFromEdge_0 rfl rfl ?_
  refine V.iconst (v := nI (0)) E dX3_reachFromEdge_1 (by decide) ?_
  refine V.putf (C := RX3) (T := TX3) (N := 10) (ref := "GlassSpill$View") (ws' := (bl [vwW G a r o k s t c m e q 0])) E 0 3 9 (by decide +kernel) tyX3_ok nmX3 rfl rfl (by decide) (by decide +kernel) rfl rfl rfl rfl (Nat.le_of_ble_eq_true rfl) dX3_reachFromEdge_2 rfl ?_
  refine V.iconst (v := nI (0)) E dX3_reachFromEdge_5 (by decide) ?_
  refine V.istore_n (lv' := [some (.ref (a 0)), some (.int (nI (0))), none]) E dX3_reachFromEdge_6 rfl (Nat.le_of_ble_eq_true rfl) rfl rfl ?_
  refine V.arr (f' := nA (mxn 0 zN e)) (ws' := (bl [vwW G a r o k s t c m (mxn 0 zN e) q 0])) 8 rfl (fun j _ => mxn_0 j) rfl ?_
  refine loopN (P := fun i7 => V G A X rm_c_X3_reachFromEdge (bl [vwW G a r o k s t c m (mxn i7 zN e) q 0]) 0 0 7 [some (.ref (a 0)), some (.int (nI (i7))), none] []) 48 (fun i7 hi_7 ih_7 => ?_) 0 (Nat.zero_le _)
  refine V.iload_n E dX3_reachFromEdge_7 rfl rfl ?_
  refine V.bipush (v := nI (48)) E dX3_reachFromEdge_8 (by decide) ?_
  refine V.icmp_geN (tgt := 26) E (by omega) (by omega) dX3_reachFromEdge_10 (by decide) (fun q_10 => ?_) (fun q_10 => ?_)
  · obtain rfl : i7 = 48 := by omega
    refine V.arr (f' := nA zN) (ws' := (bl [vwW G a r o k s t c m zN q 0])) 8 rfl (fun j hj => mxn_n j hj) rfl ?_
    refine V.iconst (v := nI (0)) E dX3_reachFromEdge_26 (by decide) ?_
    refine V.istore_n (lv' := [some (.ref (a 0)), some (.int (nI (0))), none]) E dX3_reachFromEdge_27 rfl (Nat.le_of_ble_eq_true rfl) rfl rfl ?_
    show V G A X rm_c_X3_reachFromEdge (bl [vwW G a r o k s t c m (((zN, q, 0)).1) (((zN, q, 0)).2.1) (((zN, q, 0)).2.2)]) 0 0 28 [some (.ref (a 0)), some (.int (nI (0))), none] []
    refine loopN (P := fun i28 => ∀ z : GZ, (BI r z ∧ eOK r i28 z) → V G A X rm_c_X3_reachFromEdge (bl [vwW G a r o k s t c m z.1 z.2.1 z.2.2]) 0 0 28 [some (.ref (a 0)), some (.int (nI (i28))), none] []) 48 (fun i28 hi_28 ih_28 z hg_28 => ?_) 0 (Nat.zero_le _) ((zN, q, 0)) (⟨BI.start, fun p hp => absurd hp (Nat.not_lt_zero p)⟩)
    refine V.iload_n E dX3_reachFromEdge_28 rfl rfl ?_
    refine V.bipush (v := nI (48)) E dX3_reachFromEdge_29 (by decide) ?_
    refine V.icmp_geN (tgt := 52) E (by omega) (by omega) dX3_reachFromEdge_31 (by decide) (fun q_31 => ?_) (fun q_31 => ?_)
    · obtain rfl : i28 = 48 := by omega
      refine V.iconst (v := nI (0)) E dX3_reachFromEdge_52 (by decide) ?_
      refine V.istore_n (lv' := [some (.ref (a 0)), some (.int (nI (0))), none]) E dX3_reachFromEdge_53 rfl (Nat.le_of_ble_eq_true rfl) rfl rfl ?_
      refine loopN (P := fun i54 => ∀ z : GZ, ((BI r z ∧ eOK r 48 z) ∧ i54 ≤ z.2.2 ∧ ∀ j, j < i54 → sOK r z j 4) → V G A X rm_c_X3_reachFromEdge (bl [vwW G a r o k s t c m z.1 z.2.1 z.2.2]) 0 0 54 [some (.ref (a 0)), some (.int (nI (i54))), none] []) 48 (fun i54 hi_54 ih_54 z hg_54 => ?_) 0 (Nat.zero_le _) z (⟨⟨hg_28.1, hg_28.2⟩, Nat.zero_le _, fun j hj => absurd hj (Nat.not_lt_zero j)⟩)
      refine V.iload_n E dX3_reachFromEdge_54 rfl rfl ?_
      refine V.bipush (v := nI (48)) E dX3_reachFromEdge_55 (by decide) ?_
      refine V.icmp_geN (tgt := 101) E (by omega) (by omega) dX3_reachFromEdge_57 (by decide) (fun q_57 => ?_) (fun q_57 => ?_)
      · obtain rfl : i54 = 48 := by omega
        have hfin := BI.fin hg_54.1.1 hg_54.1.2 (fun i hi => hg_54.2.2 i (by have := hg_54.1.1.n48; omega))
        exact hend _ _ _ dX3_reachFromEdge_101 ⟨z, rfl, rfl, hfin⟩
      · refine V.iload_n E dX3_reachFromEdge_60 rfl rfl ?_
        refine V.aload_n E dX3_reachFromEdge_61 rfl rfl ?_
        refine V.getf (C := RX3) (T := TX3) (N := 10) (ref := "GlassSpill$View") E 0 3 9 (by decide +kernel) rfl rfl (by decide) (by decide +kernel) rfl rfl dX3_reachFromEdge_62 ?_
        refine V.icmp_geN (tgt := 101) E (by omega) (Nat.lt_of_le_of_lt hg_54.1.1.n48 (by decide)) dX3_reachFromEdge_65 (by decide) (fun q_65 => ?_) (fun q_65 => ?_)
        · have hfin := BI.fin hg_54.1.1 hg_54.1.2 (fun i hi => hg_54.2.2 i (by omega))
          exact hend _ _ _ dX3_reachFromEdge_101 ⟨z, rfl, rfl, hfin⟩
        · refine V.iconst (v := nI (0)) E dX3_reachFromEdge_68 (by decide) ?_
          refine V.istore_n (lv' := [some (.ref (a 0)), some (.int (nI (i54))), some (.int (nI (0)))]) E dX3_reachFromEdge_69 rfl (Nat.le_of_ble_eq_true rfl) rfl rfl ?_
          refine loopN (P := fun i70 => ∀ w : GZ, ((BI r w ∧ eOK r 48 w) ∧ i54 < w.2.2 ∧ (∀ j, j < i54 → sOK r w j 4) ∧ sOK r w i54 i70) → V G A X rm_c_X3_reachFromEdge (bl [vwW G a r o k s t c m w.1 w.2.1 w.2.2]) 0 0 70 [some (.ref (a 0)), some (.int (nI (i54))), some (.int (nI (i70)))] []) 4 (fun i70 hi_70 ih_70 w hg_70 => ?_) 0 (Nat.zero_le _) z (⟨hg_54.1, q_65, hg_54.2.2, fun k hk => absurd hk (Nat.not_lt_zero k)⟩)
          refine V.iload_n E dX3_reachFromEdge_70 rfl rfl ?_
          refine V.iconst (v := nI (4)) E dX3_reachFromEdge_71 (by decide) ?_
          refine V.icmp_geN (tgt := 95) E (by omega) (by omega) dX3_reachFromEdge_72 (by decide) (fun q_72 => ?_) (fun q_72 => ?_)
          · obtain rfl : i70 = 4 := by omega
            refine V.iincN (lv' := [some (.ref (a 0)), some (.int (nI (i54 + 1))), some (.int (nI (4)))]) E dX3_reachFromEdge_95 rfl (Nat.le_of_ble_eq_true rfl) rfl rfl ?_
            refine V.goto (tgt := 54) E dX3_reachFromEdge_98 (by decide) ?_
            refine V.drop (lv' := [some (.ref (a 0)), some (.int (nI (i54 + 1))), none]) [true, true, false] rfl ?_
            exact ih_54 (by omega) w (⟨hg_70.1, hg_70.2.1, fun j hj => (Nat.lt_succ_iff_lt_or_eq.mp hj).elim (fun h => hg_70.2.2.1 j h) (fun h => h ▸ hg_70.2.2.2)⟩)
          · refine V.aload_n E dX3_reachFromEdge_75 rfl rfl ?_
            refine V.aload_n E dX3_reachFromEdge_76 rfl rfl ?_
            refine V.getf (C := RX3) (T := TX3) (N := 10) (ref := "GlassSpill$View") E 0 3 8 (by decide +kernel) rfl rfl (by decide) (by decide +kernel) rfl rfl dX3_reachFromEdge_77 ?_
            refine V.iload_n E dX3_reachFromEdge_80 rfl rfl ?_
            refine V.ialdN (v := nI (w.2.1 i54)) E 9 rfl (by have := hg_70.1.1.n48; omega) (by decide) (rfl) dX3_reachFromEdge_81 ?_
            refine V.iload_n E dX3_reachFromEdge_82 rfl rfl ?_
            refine V.callSN (host := "GlassSpill")  E (c_X4_beside G (w.2.1 i54) i70 ((hg_70.1.1.2.2.1 _ hg_70.2.1).1) (by omega)) (bl [vwW G a r o k s t c m w.1 w.2.1 w.2.2]) [.ref (a 0)] gX3_reachFromEdge_X4_beside_n94 rfl (by decide +kernel) (by decide +kernel) (by decide +kernel) hd_X4_beside ⟨⟨Nat.le_of_ble_eq_true rfl, Nat.le_of_ble_eq_true rfl⟩, Nat.le_of_ble_eq_true rfl, Nat.le_of_ble_eq_true rfl⟩ rfl (Nat.le_of_ble_eq_true rfl) rfl dX3_reachFromEdge_83 (List.Perm.refl _) (kc' := 0) (ks' := 0) rfl rfl (rwI (ws' := (bl [vwW G a r o k s t c m w.1 w.2.1 w.2.2])) (List.Perm.refl _) ?_)
            refine V.callV (C := RX3) E (c_X3_reach G a r o k s t c m w (nbI (w.2.1 i54) i70) (hr) (hg_70.1.1.1) (hg_70.1.1.n48)) (bl []) [] 0 3 rfl rfl rfl gX3_reachFromEdge_X3_reach rfl ⟨rfl, hd_X3_reach⟩ ⟨⟨Nat.le_of_ble_eq_true rfl, Nat.le_of_ble_eq_true rfl⟩, Nat.le_of_ble_eq_true rfl, Nat.le_of_ble_eq_true rfl⟩ rfl (Nat.le_of_ble_eq_true rfl) rfl dX3_reachFromEdge_86 (pBs (n := 1) [vwW G a r o k s t c m w.1 w.2.1 w.2.2] [0] [] rfl (by decide)) (kc' := 0) (ks' := 0) rfl rfl (rwV (ws' := (bl [vwW G a r o k s t c m ((rc r (nbI (w.2.1 i54) i70) w).1) ((rc r (nbI (w.2.1 i54) i70) w).2.1) ((rc r (nbI (w.2.1 i54) i70) w).2.2)])) (pBs (n := 1) [vwW G a r o k s t c m ((rc r (nbI (w.2.1 i54) i70) w).1) ((rc r (nbI (w.2.1 i54) i70) w).2.1) ((rc r (nbI (w.2.1 i54) i70) w).2.2)] [0] [] rfl (by decide)).symm ?_)
            refine V.iincN (lv' := [some (.ref (a 0)), some (.int (nI (i54))), some (.int (nI (i70 + 1)))]) E dX3_reachFromEdge_89 rfl (Nat.le_of_ble_eq_true rfl) rfl rfl ?_
            refine V.goto (tgt := 70) E dX3_reachFromEdge_92 (by decide) ?_
            exact ih_70 (by omega) (rc r (nbI (w.2.1 i54) i70) w) (stepD hg_70 (by omega))
    · refine V.iload_n E dX3_reachFromEdge_34 rfl rfl ?_
      refine V.callSN (host := "GlassSpill")  E (c_X4_isAtEdge G i28 (by omega)) (bl [vwW G a r o k s t c m z.1 z.2.1 z.2.2]) [] gX3_reachFromEdge_X4_isAtEdge_n86 rfl (by decide +kernel) (by decide +kernel) (by decide +kernel) hd_X4_isAtEdge ⟨⟨Nat.le_of_ble_eq_true rfl, Nat.le_of_ble_eq_true rfl⟩, Nat.le_of_ble_eq_true rfl, Nat.le_of_ble_eq_true rfl⟩ rfl (Nat.le_of_ble_eq_true rfl) rfl dX3_reachFromEdge_35 (List.Perm.refl _) (kc' := 0) (ks' := 0) rfl rfl (rwI (ws' := (bl [vwW G a r o k s t c m z.1 z.2.1 z.2.2])) (List.Perm.refl _) ?_)
      refine V.if_eqB (tgt := 46) E dX3_reachFromEdge_38 (by decide) (fun q_38 => ?_) (fun q_38 => ?_)
      · refine V.iincN (lv' := [some (.ref (a 0)), some (.int (nI (i28 + 1))), none]) E dX3_reachFromEdge_46 rfl (Nat.le_of_ble_eq_true rfl) rfl rfl ?_
        refine V.goto (tgt := 28) E dX3_reachFromEdge_49 (by decide) ?_
        exact ih_28 (by omega) z (⟨hg_28.1, fun p hp he hr2 => (Nat.lt_succ_iff_lt_or_eq.mp hp).elim (fun h => hg_28.2 p h he hr2) (fun h => absurd he (by rw [h, q_38]; decide))⟩)
      · refine V.aload_n E dX3_reachFromEdge_41 rfl rfl ?_
        refine V.iload_n E dX3_reachFromEdge_42 rfl rfl ?_
        refine V.callV (C := RX3) E (c_X3_reach G a r o k s t c m z (nI (i28)) (hr) (hg_28.1.1) (hg_28.1.n48)) (bl []) [] 0 3 rfl rfl rfl gX3_reachFromEdge_X3_reach rfl ⟨rfl, hd_X3_reach⟩ ⟨⟨Nat.le_of_ble_eq_true rfl, Nat.le_of_ble_eq_true rfl⟩, Nat.le_of_ble_eq_true rfl, Nat.le_of_ble_eq_true rfl⟩ rfl (Nat.le_of_ble_eq_true rfl) rfl dX3_reachFromEdge_43 (pBs (n := 1) [vwW G a r o k s t c m z.1 z.2.1 z.2.2] [0] [] rfl (by decide)) (kc' := 0) (ks' := 0) rfl rfl (rwV (ws' := (bl [vwW G a r o k s t c m ((rc r (nI (i28)) z).1) ((rc r (nI (i28)) z).2.1) ((rc r (nI (i28)) z).2.2)])) (pBs (n := 1) [vwW G a r o k s t c m ((rc r (nI (i28)) z).1) ((rc r (nI (i28)) z).2.1) ((rc r (nI (i28)) z).2.2)] [0] [] rfl (by decide)).symm ?_)
        refine V.iincN (lv' := [some (.ref (a 0)), some (.int (nI (i28 + 1))), none]) E dX3_reachFromEdge_46 rfl (Nat.le_of_ble_eq_true rfl) rfl rfl ?_
        refine V.goto (tgt := 28) E dX3_reachFromEdge_49 (by decide) ?_
        show V G A X rm_c_X3_reachFromEdge (bl [vwW G a r o k s t c m ((rc r (nI i28) z).1) ((rc r (nI i28) z).2.1) ((rc r (nI i28) z).2.2)]) 0 0 28 [some (.ref (a 0)), some (.int (nI (i28 + 1))), none] []
        exact ih_28 (by omega) (rc r (nI i28) z) (have hb := BI.stp (x := nI i28) hg_28.1 (fun p hp e hr2 => by rw [← (nI_eq (by omega) (by omega)).mp e]; rw [← (nI_eq (by omega) (by omega)).mp e] at hr2; exact Opn.atE hr2 q_38); ⟨hb.1, fun p hp he hr2 => (Nat.lt_succ_iff_lt_or_eq.mp hp).elim (fun h => hb.2.1 p (by omega) (hg_28.2 p h he hr2)) (fun h => hb.2.2.2.2 p (by omega) (by rw [h]) hr2)⟩)
  · refine V.aload_n E dX3_reachFromEdge_13 rfl rfl ?_
    refine V.getf (C := RX3) (T := TX3) (N := 10) (ref := "GlassSpill$View") E 0 3 7 (by decide +kernel) rfl rfl (by decide) (by decide +kernel) rfl rfl dX3_reachFromEdge_14 ?_
    refine V.iload_n E dX3_reachFromEdge_17 rfl rfl ?_
    refine V.iconst (v := nI (0)) E dX3_reachFromEdge_18 (by decide) ?_
    refine V.zastN (f' := nA (mxn (i7 + 1) zN e)) (ws' := (bl [vwW G a r o k s t c m (mxn (i7 + 1) zN e) q 0])) E 8 rfl (by omega) (by decide) dX3_reachFromEdge_19 (rfl) (fun j _ => mxn_u rfl j) rfl ?_
    refine V.iincN (lv' := [some (.ref (a 0)), some (.int (nI (i7 + 1))), none]) E dX3_reachFromEdge_20 rfl (Nat.le_of_ble_eq_true rfl) rfl rfl ?_
    refine V.goto (tgt := 7) E dX3_reachFromEdge_23 (by decide) ?_
    exact ih_7 (by omega)
abbrev rm_c_X3_closeHoles : Room := { frames := 3, cells := 0, slots := 0, locals := 63 }
theorem hd_X3_closeHoles : yX3_closeHoles.cls ≠ "java/lang/invoke/MethodHandle" ∧ yX3_closeHoles.cls ≠ "java/lang/invoke/VarHandle" ∧ (parseMethodDescriptor yX3_closeHoles.desc).map (fun d => d.parameters.length) = some 0 := by decide +kernel
set_option maxRecDepth 100000 in
set_option maxHeartbeats 8000000 in
theorem c_X3_closeHoles (G : VC) (a : Nat → Nat) (r : Nat → Nat) (o : Nat → Nat) (k : Nat → Nat) (s : Nat → Nat) (t : Nat → Nat) (c : Nat → Nat) (m : Nat → Nat) (e : Nat → Nat) (q : Nat → Nat) (n : Nat) (hr : ∀ j, j < 48 → r j ≤ 16) : Ctr yX3_closeHoles wsX3_closeHoles rm_c_X3_closeHoles G [.ref (a 0)] (bl [vwW G a r o k s t c m e q n]) (fun v9_ u9_ => ∃ z : GZ, u9_ = (bl [vwW G a r (clsF r o) k s t c m z.1 z.2.1 z.2.2]) ∧ v9_ = none ∧ (True)) := by
  refine Ctr.void (cc := cX3_closeHoles) (maxL := 2) (lv0 := [some (.ref (a 0)), none]) (by decide) rfl rfl rfl (Nat.le_of_ble_eq_true rfl) (fun A X E hinit hend => ?_)
  refine V.aload_n E dX3_closeHoles_0 rfl rfl ?_
  refine V.callV (C := RX3) E (c_X3_reachFromEdge G a r o k s t c m e q n (by omega)) (bl []) [] 0 3 rfl rfl rfl gX3_closeHoles_X3_reachFromEdge rfl ⟨rfl, hd_X3_reachFromEdge⟩ ⟨⟨Nat.le_of_ble_eq_true rfl, Nat.le_of_ble_eq_true rfl⟩, Nat.le_of_ble_eq_true rfl, Nat.le_of_ble_eq_true rfl⟩ rfl (Nat.le_of_ble_eq_true rfl) rfl dX3_closeHoles_1 (pBs (n := 1) [vwW G a r o k s t c m e q n] [0] [] rfl (by decide)) (kc' := 0) (ks' := 0) rfl rfl (rxV (ws' := fun (g_1 : GZ) => (bl [vwW G a r o k s t c m g_1.1 g_1.2.1 g_1.2.2])) (fun g_1 => (pBs (n := 1) [vwW G a r o k s t c m g_1.1 g_1.2.1 g_1.2.2] [0] [] rfl (by decide)).symm) (fun g_1 hf_1 => ?_))
  refine V.iconst (v := nI (0)) E dX3_closeHoles_4 (by decide) ?_
  refine V.istore_n (lv' := [some (.ref (a 0)), some (.int (nI (0)))]) E dX3_closeHoles_5 rfl (Nat.le_of_ble_eq_true rfl) rfl rfl ?_
  refine V.arr (f' := nA (mxn 0 (clsF r o) o)) (ws' := (bl [vwW G a r (mxn 0 (clsF r o) o) k s t c m g_1.1 g_1.2.1 g_1.2.2])) 2 rfl (fun j _ => mxn_0 j) rfl ?_
  refine loopN (P := fun i6 => V G A X rm_c_X3_closeHoles (bl [vwW G a r (mxn i6 (clsF r o) o) k s t c m g_1.1 g_1.2.1 g_1.2.2]) 0 0 6 [some (.ref (a 0)), some (.int (nI (i6)))] []) 48 (fun i6 hi_6 ih_6 => ?_) 0 (Nat.zero_le _)
  refine V.iload_n E dX3_closeHoles_6 rfl rfl ?_
  refine V.bipush (v := nI (48)) E dX3_closeHoles_7 (by decide) ?_
  refine V.icmp_geN (tgt := 35) E (by omega) (by omega) dX3_closeHoles_9 (by decide) (fun q_9 => ?_) (fun q_9 => ?_)
  · obtain rfl : i6 = 48 := by omega
    refine V.arr (f' := nA (clsF r o)) (ws' := (bl [vwW G a r (clsF r o) k s t c m g_1.1 g_1.2.1 g_1.2.2])) 2 rfl (fun j hj => mxn_n j hj) rfl ?_
    exact hend _ _ _ dX3_closeHoles_35 ⟨g_1, rfl, rfl, trivial⟩
  · refine V.aload_n E dX3_closeHoles_12 rfl rfl ?_
    refine V.getf (C := RX3) (T := TX3) (N := 10) (ref := "GlassSpill$View") E 0 3 7 (by decide +kernel) rfl rfl (by decide) (by decide +kernel) rfl rfl dX3_closeHoles_13 ?_
    refine V.iload_n E dX3_closeHoles_16 rfl rfl ?_
    refine V.zaldN (v := nI (g_1.1 i6)) E 8 rfl (by omega) (by decide) (rfl) dX3_closeHoles_17 ?_
    refine V.if_neN (tgt := 29) E ((Nat.lt_of_le_of_lt ((hf_1 i6 (by omega)).1) (by decide))) dX3_closeHoles_18 (by decide) (fun q_18 => ?_) (fun q_18 => ?_)
    · refine V.iincN (lv' := [some (.ref (a 0)), some (.int (nI (i6 + 1)))]) E dX3_closeHoles_29 rfl (Nat.le_of_ble_eq_true rfl) rfl rfl ?_
      refine V.goto (tgt := 6) E dX3_closeHoles_32 (by decide) ?_
      refine V.arr (f' := nA (mxn (i6 + 1) (clsF r o) o)) (ws' := (bl [vwW G a r (mxn (i6 + 1) (clsF r o) o) k s t c m g_1.1 g_1.2.1 g_1.2.2])) 2 rfl (fun j _ => mxn_s (clsF_t ((hf_1 i6 (by omega)).2.mp (by have := (hf_1 i6 (by omega)).1; omega))).symm j) rfl ?_
      exact ih_6 (by omega)
    · refine V.aload_n E dX3_closeHoles_21 rfl rfl ?_
      refine V.getf (C := RX3) (T := TX3) (N := 10) (ref := "GlassSpill$View") E 0 3 1 (by decide +kernel) rfl rfl (by decide) (by decide +kernel) rfl rfl dX3_closeHoles_22 ?_
      refine V.iload_n E dX3_closeHoles_25 rfl rfl ?_
      refine V.bipush (v := nI (16)) E dX3_closeHoles_26 (by decide) ?_
      refine V.iastN (f' := nA (mxn (i6 + 1) (clsF r o) o)) (ws' := (bl [vwW G a r (mxn (i6 + 1) (clsF r o) o) k s t c m g_1.1 g_1.2.1 g_1.2.2])) E 2 rfl (by omega) (by decide) dX3_closeHoles_28 (fun j _ => mxn_u (clsF_f (fun h => absurd ((hf_1 i6 (by omega)).2.mpr h) (by omega))).symm j) rfl ?_
      refine V.iincN (lv' := [some (.ref (a 0)), some (.int (nI (i6 + 1)))]) E dX3_closeHoles_29 rfl (Nat.le_of_ble_eq_true rfl) rfl rfl ?_
      refine V.goto (tgt := 6) E dX3_closeHoles_32 (by decide) ?_
      exact ih_6 (by omega)
abbrev rm_c_X3_findOpaque : Room := { frames := 4, cells := 0, slots := 0, locals := 85 }
theorem hd_X3_findOpaque : yX3_findOpaque.cls ≠ "java/lang/invoke/MethodHandle" ∧ yX3_findOpaque.cls ≠ "java/lang/invoke/VarHandle" ∧ (parseMethodDescriptor yX3_findOpaque.desc).map (fun d => d.parameters.length) = some 1 := by decide +kernel
set_option maxRecDepth 100000 in
set_option maxHeartbeats 8000000 in
theorem c_X3_findOpaque (G : VC) (a : Nat → Nat) (r : Nat → Nat) (o : Nat → Nat) (k : Nat → Nat) (s : Nat → Nat) (t : Nat → Nat) (c : Nat → Nat) (m : Nat → Nat) (e : Nat → Nat) (q : Nat → Nat) (n : Nat) (b : Nat → Nat) (x : SC) (hx : SInv x) : Ctr yX3_findOpaque wsX3_findOpaque rm_c_X3_findOpaque G [.ref (a 0), .ref (b 0)] (bl [vwW G a r o k s t c m e q n, scW G b x]) (fun v9_ u9_ => ∃ z : GZ, u9_ = (bl [vwW G a (rawF x) (opqF x) k s t c m z.1 z.2.1 z.2.2, scW G b x]) ∧ v9_ = none ∧ (True)) := by
  refine Ctr.void (cc := cX3_findOpaque) (maxL := 5) (lv0 := [some (.ref (a 0)), some (.ref (b 0)), none, none, none]) (by decide) rfl rfl rfl (Nat.le_of_ble_eq_true rfl) (fun A X E hinit hend => ?_)
  refine V.aload_n E dX3_findOpaque_0 rfl rfl ?_
  refine V.getf (C := RX2) (T := TX2) (N := 5) (ref := "GlassSpill$Scene") E 10 2 0 (by decide +kernel) rfl rfl (by decide) (by decide +kernel) rfl rfl dX3_findOpaque_1 ?_
  refine V.iconst (v := nI (0)) E dX3_findOpaque_4 (by decide) ?_
  refine V.ialdN (v := nI (scS x 0)) E 11 rfl (by omega) (by decide) (rfl) dX3_findOpaque_5 ?_
  refine V.istore_n (lv' := [some (.ref (a 0)), some (.ref (b 0)), some (.int (nI (scS x 0))), none, none]) E dX3_findOpaque_6 rfl (Nat.le_of_ble_eq_true rfl) rfl rfl ?_
  refine V.aload_n E dX3_findOpaque_7 rfl rfl ?_
  refine V.getf (C := RX2) (T := TX2) (N := 5) (ref := "GlassSpill$Scene") E 10 2 0 (by decide +kernel) rfl rfl (by decide) (by decide +kernel) rfl rfl dX3_findOpaque_8 ?_
  refine V.iconst (v := nI (1)) E dX3_findOpaque_11 (by decide) ?_
  refine V.ialdN (v := nI (scS x 1)) E 11 rfl (by omega) (by decide) (rfl) dX3_findOpaque_12 ?_
  refine V.istore_n (lv' := [some (.ref (a 0)), some (.ref (b 0)), some (.int (nI (scS x 0))), some (.int (nI (scS x 1))), none]) E dX3_findOpaque_13 rfl (Nat.le_of_ble_eq_true rfl) rfl rfl ?_
  refine V.iconst (v := nI (0)) E dX3_findOpaque_14 (by decide) ?_
  refine V.istore (lv' := [some (.ref (a 0)), some (.ref (b 0)), some (.int (nI (scS x 0))), some (.int (nI (scS x 1))), some (.int (nI (0)))]) E dX3_findOpaque_15 (Nat.le_of_ble_eq_true rfl) rfl rfl ?_
  refine V.arr (f' := nA (mxn 0 (rawF x) r)) (ws' := (bl [vwW G a (mxn 0 (rawF x) r) o k s t c m e q n, scW G b x])) 1 rfl (fun j _ => mxn_0 j) rfl ?_
  refine V.arr (f' := nA (mxn 0 (rawF x) o)) (ws' := (bl [vwW G a (mxn 0 (rawF x) r) (mxn 0 (rawF x) o) k s t c m e q n, scW G b x])) 2 rfl (fun j _ => mxn_0 j) rfl ?_
  refine loopN (P := fun i17 => V G A X rm_c_X3_findOpaque (bl [vwW G a (mxn i17 (rawF x) r) (mxn i17 (rawF x) o) k s t c m e q n, scW G b x]) 0 0 17 [some (.ref (a 0)), some (.ref (b 0)), some (.int (nI (scS x 0))), some (.int (nI (scS x 1))), some (.int (nI (i17)))] []) 48 (fun i17 hi_17 ih_17 => ?_) 0 (Nat.zero_le _)
  refine V.iload E dX3_findOpaque_17 rfl ?_
  refine V.bipush (v := nI (48)) E dX3_findOpaque_19 (by decide) ?_
  refine V.icmp_geN (tgt := 62) E (by omega) (by omega) dX3_findOpaque_21 (by decide) (fun q_21 => ?_) (fun q_21 => ?_)
  · obtain rfl : i17 = 48 := by omega
    refine V.arr (f' := nA (rawF x)) (ws' := (bl [vwW G a (rawF x) (mxn 48 (rawF x) o) k s t c m e q n, scW G b x])) 1 rfl (fun j hj => mxn_n j hj) rfl ?_
    refine V.arr (f' := nA (rawF x)) (ws' := (bl [vwW G a (rawF x) (rawF x) k s t c m e q n, scW G b x])) 2 rfl (fun j hj => mxn_n j hj) rfl ?_
    refine V.aload_n E dX3_findOpaque_62 rfl rfl ?_
    refine V.getf (C := RX2) (T := TX2) (N := 5) (ref := "GlassSpill$Scene") E 10 2 0 (by decide +kernel) rfl rfl (by decide) (by decide +kernel) rfl rfl dX3_findOpaque_63 ?_
    refine V.iconst (v := nI (5)) E dX3_findOpaque_66 (by decide) ?_
    refine V.ialdN (v := nI (scS x 5)) E 11 rfl (by omega) (by decide) (rfl) dX3_findOpaque_67 ?_
    refine V.iconst (v := nI (1)) E dX3_findOpaque_68 (by decide) ?_
    refine V.icmp_neN (tgt := 76) E (by have := hx.s5; omega) (by omega) dX3_findOpaque_69 (by decide) (fun q_69 => ?_) (fun q_69 => ?_)
    · refine V.arr (f' := nA (opqF x)) (ws' := (bl [vwW G a (rawF x) (opqF x) k s t c m e q n, scW G b x])) 2 rfl (fun j _ => congrArg nI (opq_n q_69 j)) rfl ?_
      exact hend _ _ _ dX3_findOpaque_76 ⟨(e, q, n), rfl, rfl, trivial⟩
    · refine V.aload_n E dX3_findOpaque_72 rfl rfl ?_
      refine V.callV (C := RX3) E (c_X3_closeHoles G a (rawF x) (rawF x) k s t c m e q n (fun j _ => rawF_le x j)) (bl [scW G b x]) [] 0 3 rfl rfl rfl gX3_findOpaque_X3_closeHoles rfl ⟨rfl, hd_X3_closeHoles⟩ ⟨⟨Nat.le_of_ble_eq_true rfl, Nat.le_of_ble_eq_true rfl⟩, Nat.le_of_ble_eq_true rfl, Nat.le_of_ble_eq_true rfl⟩ rfl (Nat.le_of_ble_eq_true rfl) rfl dX3_findOpaque_73 (pBs (n := 2) [vwW G a (rawF x) (rawF x) k s t c m e q n, scW G b x] [0] [1] rfl (by decide)) (kc' := 0) (ks' := 0) rfl rfl (rxV (ws' := fun (g_73 : GZ) => (bl [vwW G a (rawF x) (clsF (rawF x) (rawF x)) k s t c m g_73.1 g_73.2.1 g_73.2.2, scW G b x])) (fun g_73 => (pBs (n := 2) [vwW G a (rawF x) (clsF (rawF x) (rawF x)) k s t c m g_73.1 g_73.2.1 g_73.2.2, scW G b x] [0] [1] rfl (by decide)).symm) (fun g_73 hf_73 => ?_))
      refine V.arr (f' := nA (opqF x)) (ws' := (bl [vwW G a (rawF x) (opqF x) k s t c m g_73.1 g_73.2.1 g_73.2.2, scW G b x])) 2 rfl (fun j _ => congrArg nI (opq_y q_69 j)) rfl ?_
      exact hend _ _ _ dX3_findOpaque_76 ⟨g_73, rfl, rfl, trivial⟩
  · refine V.aload_n E dX3_findOpaque_24 rfl rfl ?_
    refine V.getf (C := RX3) (T := TX3) (N := 10) (ref := "GlassSpill$View") E 0 3 0 (by decide +kernel) rfl rfl (by decide) (by decide +kernel) rfl rfl dX3_findOpaque_25 ?_
    refine V.iload E dX3_findOpaque_28 rfl ?_
    refine V.aload_n E dX3_findOpaque_30 rfl rfl ?_
    refine V.iload E dX3_findOpaque_31 rfl ?_
    refine V.callV (C := RX2) E (c_X2_distanceOf G b x i17 (hx) (by omega)) (bl [vwW G a (mxn i17 (rawF x) r) (mxn i17 (rawF x) o) k s t c m e q n]) [.int (nI (i17)), .ref (a 1)] 10 2 rfl rfl rfl gX3_findOpaque_X2_distanceOf rfl ⟨rfl, hd_X2_distanceOf⟩ ⟨⟨Nat.le_of_ble_eq_true rfl, Nat.le_of_ble_eq_true rfl⟩, Nat.le_of_ble_eq_true rfl, Nat.le_of_ble_eq_true rfl⟩ rfl (Nat.le_of_ble_eq_true rfl) rfl dX3_findOpaque_33 (pBs (n := 2) [vwW G a (mxn i17 (rawF x) r) (mxn i17 (rawF x) o) k s t c m e q n, scW G b x] [1] [0] rfl (by decide)) (kc' := 0) (ks' := 0) rfl rfl (rwI (ws' := (bl [vwW G a (mxn i17 (rawF x) r) (mxn i17 (rawF x) o) k s t c m e q n, scW G b x])) (pBs (n := 2) [vwW G a (mxn i17 (rawF x) r) (mxn i17 (rawF x) o) k s t c m e q n, scW G b x] [1] [0] rfl (by decide)).symm ?_)
    refine V.iload_n E dX3_findOpaque_36 rfl rfl ?_
    refine V.iload_n E dX3_findOpaque_37 rfl rfl ?_
    refine V.callS E (c_X3_rawOpaque G (dist (scF x i17) (scC x)) (scS x 0) (scS x 1) (hx.lt) (hx.s1) (dist_le _ _)) (bl [vwW G a (mxn i17 (rawF x) r) (mxn i17 (rawF x) o) k s t c m e q n, scW G b x]) [.int (nI (i17)), .ref (a 1)] gX3_findOpaque_X3_rawOpaque rfl hd_X3_rawOpaque ⟨⟨Nat.le_of_ble_eq_true rfl, Nat.le_of_ble_eq_true rfl⟩, Nat.le_of_ble_eq_true rfl, Nat.le_of_ble_eq_true rfl⟩ rfl (Nat.le_of_ble_eq_true rfl) rfl dX3_findOpaque_38 (List.Perm.refl _) (kc' := 0) (ks' := 0) rfl rfl (rwI (ws' := (bl [vwW G a (mxn i17 (rawF x) r) (mxn i17 (rawF x) o) k s t c m e q n, scW G b x])) (List.Perm.refl _) ?_)
    refine V.iastN (f' := nA (mxn (i17 + 1) (rawF x) r)) (ws' := (bl [vwW G a (mxn (i17 + 1) (rawF x) r) (mxn i17 (rawF x) o) k s t c m e q n, scW G b x])) E 1 rfl (by omega) (by decide) dX3_findOpaque_41 (fun j _ => mxn_u rfl j) rfl ?_
    refine V.aload_n E dX3_findOpaque_42 rfl rfl ?_
    refine V.getf (C := RX3) (T := TX3) (N := 10) (ref := "GlassSpill$View") E 0 3 1 (by decide +kernel) rfl rfl (by decide) (by decide +kernel) rfl rfl dX3_findOpaque_43 ?_
    refine V.iload E dX3_findOpaque_46 rfl ?_
    refine V.aload_n E dX3_findOpaque_48 rfl rfl ?_
    refine V.getf (C := RX3) (T := TX3) (N := 10) (ref := "GlassSpill$View") E 0 3 0 (by decide +kernel) rfl rfl (by decide) (by decide +kernel) rfl rfl dX3_findOpaque_49 ?_
    refine V.iload E dX3_findOpaque_52 rfl ?_
    refine V.ialdN (v := nI (rawF x i17)) E 1 rfl (by omega) (by decide) (congrArg nI mxn_at) dX3_findOpaque_54 ?_
    refine V.iastN (f' := nA (mxn (i17 + 1) (rawF x) o)) (ws' := (bl [vwW G a (mxn (i17 + 1) (rawF x) r) (mxn (i17 + 1) (rawF x) o) k s t c m e q n, scW G b x])) E 2 rfl (by omega) (by decide) dX3_findOpaque_55 (fun j _ => mxn_u rfl j) rfl ?_
    refine V.iincN (lv' := [some (.ref (a 0)), some (.ref (b 0)), some (.int (nI (scS x 0))), some (.int (nI (scS x 1))), some (.int (nI (i17 + 1)))]) E dX3_findOpaque_56 rfl (Nat.le_of_ble_eq_true rfl) rfl rfl ?_
    refine V.goto (tgt := 17) E dX3_findOpaque_59 (by decide) ?_
    exact ih_17 (by omega)
abbrev rm_c_X3_isOneBeside : Room := { frames := 1, cells := 0, slots := 0, locals := 22 }
theorem hd_X3_isOneBeside : yX3_isOneBeside.cls ≠ "java/lang/invoke/MethodHandle" ∧ yX3_isOneBeside.cls ≠ "java/lang/invoke/VarHandle" ∧ (parseMethodDescriptor yX3_isOneBeside.desc).map (fun d => d.parameters.length) = some 2 := by decide +kernel
set_option maxRecDepth 100000 in
set_option maxHeartbeats 8000000 in
theorem c_X3_isOneBeside (G : VC) (a : Nat → Nat) (r : Nat → Nat) (o : Nat → Nat) (k : Nat → Nat) (s : Nat → Nat) (t : Nat → Nat) (c : Nat → Nat) (m : Nat → Nat) (e : Nat → Nat) (q : Nat → Nat) (n : Nat) (p : Nat) (v : Nat) (hp : p < 48) (hv2 : v ≤ 16) (ho : ∀ j, j < 48 → o j ≤ 16) : Ctr yX3_isOneBeside wsX3_isOneBeside rm_c_X3_isOneBeside G [.ref (a 0), .int (nI (p)), .int (nI (v))] (bl [vwW G a r o k s t c m e q n]) (fun v9_ u9_ => u9_ = (bl [vwW G a r o k s t c m e q n]) ∧ v9_ = some (.int (nI (bN (nbHas o p v))))) := by
  refine Ctr.int (cc := cX3_isOneBeside) (maxL := 5) (ret := (some .boolean)) (lv0 := [some (.ref (a 0)), some (.int (nI (p))), some (.int (nI (v))), none, none]) (by decide) rfl rfl rfl (Nat.le_of_ble_eq_true rfl) rfl (fun A X E hend => ?_)
  refine V.iconst (v := nI (0)) E dX3_isOneBeside_0 (by decide) ?_
  refine V.istore_n (lv' := [some (.ref (a 0)), some (.int (nI (p))), some (.int (nI (v))), some (.int (nI (0))), none]) E dX3_isOneBeside_1 rfl (Nat.le_of_ble_eq_true rfl) rfl rfl ?_
  refine loopN (P := fun i2 => ∀ u_ : Unit, (anyN i2 (fun k => nbOK p k && decide (o (nbP p k) = v)) = false) → V G A X rm_c_X3_isOneBeside (bl [vwW G a r o k s t c m e q n]) 0 0 2 [some (.ref (a 0)), some (.int (nI (p))), some (.int (nI (v))), some (.int (nI (i2))), none] []) 4 (fun i2 hi_2 ih_2 u_ hg_2 => ?_) 0 (Nat.zero_le _) (()) (rfl)
  refine V.iload_n E dX3_isOneBeside_2 rfl rfl ?_
  refine V.iconst (v := nI (4)) E dX3_isOneBeside_3 (by decide) ?_
  refine V.icmp_geN (tgt := 41) E (by omega) (by omega) dX3_isOneBeside_4 (by decide) (fun q_4 => ?_) (fun q_4 => ?_)
  · obtain rfl : i2 = 4 := by omega
    refine V.iconst (v := nI (0)) E dX3_isOneBeside_41 (by decide) ?_
    refine V.topN (b := bN (nbHas o p v)) (by first | exact (bN_f hg_2).symm | exact (bN_t (anyN_t.mpr ⟨i2, by omega, by simp [hn_, q_30]⟩)).symm) ?_
    exact hend _ _ _ _ dX3_isOneBeside_42 (nrB _) ⟨rfl, rfl⟩
  · refine V.iload_n E dX3_isOneBeside_7 rfl rfl ?_
    refine V.iload_n E dX3_isOneBeside_8 rfl rfl ?_
    refine V.callSN (host := "GlassSpill")  E (c_X4_beside G p i2 (by omega) (by omega)) (bl [vwW G a r o k s t c m e q n]) [] gX3_isOneBeside_X4_beside_n94 rfl (by decide +kernel) (by decide +kernel) (by decide +kernel) hd_X4_beside ⟨⟨Nat.le_of_ble_eq_true rfl, Nat.le_of_ble_eq_true rfl⟩, Nat.le_of_ble_eq_true rfl, Nat.le_of_ble_eq_true rfl⟩ rfl (Nat.le_of_ble_eq_true rfl) rfl dX3_isOneBeside_9 (List.Perm.refl _) (kc' := 0) (ks' := 0) rfl rfl (rwI (ws' := (bl [vwW G a r o k s t c m e q n])) (List.Perm.refl _) ?_)
    refine V.istore (lv' := [some (.ref (a 0)), some (.int (nI (p))), some (.int (nI (v))), some (.int (nI (i2))), some (.int (nbI p i2))]) E dX3_isOneBeside_12 (Nat.le_of_ble_eq_true rfl) rfl rfl ?_
    refine V.iload E dX3_isOneBeside_14 rfl ?_
    refine V.callSN (host := "GlassSpill")  E (c_X4_isPixel G (nbI p i2) ) (bl [vwW G a r o k s t c m e q n]) [] gX3_isOneBeside_X4_isPixel_n97 rfl (by decide +kernel) (by decide +kernel) (by decide +kernel) hd_X4_isPixel ⟨⟨Nat.le_of_ble_eq_true rfl, Nat.le_of_ble_eq_true rfl⟩, Nat.le_of_ble_eq_true rfl, Nat.le_of_ble_eq_true rfl⟩ rfl (Nat.le_of_ble_eq_true rfl) rfl dX3_isOneBeside_16 (List.Perm.refl _) (kc' := 0) (ks' := 0) rfl rfl (rwI (ws' := (bl [vwW G a r o k s t c m e q n])) (List.Perm.refl _) ?_)
    refine V.if_eqB (tgt := 35) E dX3_isOneBeside_19 (by decide) (fun q_19 => ?_) (fun q_19 => ?_)
    · refine V.iincN (lv' := [some (.ref (a 0)), some (.int (nI (p))), some (.int (nI (v))), some (.int (nI (i2 + 1))), some (.int (nbI p i2))]) E dX3_isOneBeside_35 rfl (Nat.le_of_ble_eq_true rfl) rfl rfl ?_
      refine V.goto (tgt := 2) E dX3_isOneBeside_38 (by decide) ?_
      refine V.drop (lv' := [some (.ref (a 0)), some (.int (nI (p))), some (.int (nI (v))), some (.int (nI (i2 + 1))), none]) [true, true, true, true, false] rfl ?_
      exact ih_2 (by omega) (()) (by rw [anyN, hg_2, ← nb_ok hp, q_19]; rfl)
    · have hn_ : nbOK p i2 = true := by rw [← nb_ok hp]; exact q_19
      have hp_ := nbP_lt hp hn_
      refine V.loc (y := nI (nbP p i2)) (lv' := [some (.ref (a 0)), some (.int (nI (p))), some (.int (nI (v))), some (.int (nI (i2))), some (.int (nI (nbP p i2)))]) 4 (nbI_t hn_) rfl rfl ?_
      refine V.aload_n E dX3_isOneBeside_22 rfl rfl ?_
      refine V.getf (C := RX3) (T := TX3) (N := 10) (ref := "GlassSpill$View") E 0 3 1 (by decide +kernel) rfl rfl (by decide) (by decide +kernel) rfl rfl dX3_isOneBeside_23 ?_
      refine V.iload E dX3_isOneBeside_26 rfl ?_
      refine V.ialdN (v := nI (o (nbP p i2))) E 2 rfl (by omega) (by decide) (rfl) dX3_isOneBeside_28 ?_
      refine V.iload_n E dX3_isOneBeside_29 rfl rfl ?_
      refine V.icmp_neN (tgt := 35) E (Nat.lt_of_le_of_lt (ho _ hp_) (by decide)) (by omega) dX3_isOneBeside_30 (by decide) (fun q_30 => ?_) (fun q_30 => ?_)
      · refine V.iincN (lv' := [some (.ref (a 0)), some (.int (nI (p))), some (.int (nI (v))), some (.int (nI (i2 + 1))), some (.int (nI (nbP p i2)))]) E dX3_isOneBeside_35 rfl (Nat.le_of_ble_eq_true rfl) rfl rfl ?_
        refine V.goto (tgt := 2) E dX3_isOneBeside_38 (by decide) ?_
        refine V.drop (lv' := [some (.ref (a 0)), some (.int (nI (p))), some (.int (nI (v))), some (.int (nI (i2 + 1))), none]) [true, true, true, true, false] rfl ?_
        exact ih_2 (by omega) (()) (by rw [anyN, hg_2]; simp [q_30])
      · refine V.iconst (v := nI (1)) E dX3_isOneBeside_33 (by decide) ?_
        refine V.topN (b := bN (nbHas o p v)) (by first | exact (bN_f hg_2).symm | exact (bN_t (anyN_t.mpr ⟨i2, by omega, by simp [hn_, q_30]⟩)).symm) ?_
        exact hend _ _ _ _ dX3_isOneBeside_34 (nrB _) ⟨rfl, rfl⟩
abbrev rm_c_X3_unmarkedKind : Room := { frames := 2, cells := 0, slots := 0, locals := 46 }
theorem hd_X3_unmarkedKind : yX3_unmarkedKind.cls ≠ "java/lang/invoke/MethodHandle" ∧ yX3_unmarkedKind.cls ≠ "java/lang/invoke/VarHandle" ∧ (parseMethodDescriptor yX3_unmarkedKind.desc).map (fun d => d.parameters.length) = some 1 := by decide +kernel
set_option maxRecDepth 100000 in
set_option maxHeartbeats 8000000 in
theorem c_X3_unmarkedKind (G : VC) (a : Nat → Nat) (r : Nat → Nat) (o : Nat → Nat) (k : Nat → Nat) (s : Nat → Nat) (t : Nat → Nat) (c : Nat → Nat) (m : Nat → Nat) (e : Nat → Nat) (q : Nat → Nat) (n : Nat) (p : Nat) (hp : p < 48) (ho : ∀ j, j < 48 → o j ≤ 16) : Ctr yX3_unmarkedKind wsX3_unmarkedKind rm_c_X3_unmarkedKind G [.ref (a 0), .int (nI (p))] (bl [vwW G a r o k s t c m e q n]) (fun v9_ u9_ => u9_ = (bl [vwW G a r o k s t c m e q n]) ∧ v9_ = some (.int (nI (knU o p)))) := by
  refine Ctr.int (cc := cX3_unmarkedKind) (maxL := 2) (ret := (some .int)) (lv0 := [some (.ref (a 0)), some (.int (nI (p)))]) (by decide) rfl rfl rfl (Nat.le_of_ble_eq_true rfl) rfl (fun A X E hend => ?_)
  refine V.iload_n E dX3_unmarkedKind_0 rfl rfl ?_
  refine V.callSN (host := "GlassSpill")  E (c_X4_isPixel G (nI (p)) ) (bl [vwW G a r o k s t c m e q n]) [] gX3_unmarkedKind_X4_isPixel_n97 rfl (by decide +kernel) (by decide +kernel) (by decide +kernel) hd_X4_isPixel ⟨⟨Nat.le_of_ble_eq_true rfl, Nat.le_of_ble_eq_true rfl⟩, Nat.le_of_ble_eq_true rfl, Nat.le_of_ble_eq_true rfl⟩ rfl (Nat.le_of_ble_eq_true rfl) rfl dX3_unmarkedKind_1 (List.Perm.refl _) (kc' := 0) (ks' := 0) rfl rfl (rwI (ws' := (bl [vwW G a r o k s t c m e q n])) (List.Perm.refl _) ?_)
  refine V.if_neB (tgt := 9) E dX3_unmarkedKind_4 (by decide) (fun q_4 => ?_) (fun q_4 => ?_)
  · refine V.aload_n E dX3_unmarkedKind_9 rfl rfl ?_
    refine V.getf (C := RX3) (T := TX3) (N := 10) (ref := "GlassSpill$View") E 0 3 1 (by decide +kernel) rfl rfl (by decide) (by decide +kernel) rfl rfl dX3_unmarkedKind_10 ?_
    refine V.iload_n E dX3_unmarkedKind_13 rfl rfl ?_
    refine V.ialdN (v := nI (o p)) E 2 rfl (by omega) (by decide) (rfl) dX3_unmarkedKind_14 ?_
    refine V.if_neN (tgt := 20) E ((Nat.lt_of_le_of_lt (ho p hp) (by decide))) dX3_unmarkedKind_15 (by decide) (fun q_15 => ?_) (fun q_15 => ?_)
    · refine V.aload_n E dX3_unmarkedKind_20 rfl rfl ?_
      refine V.getf (C := RX3) (T := TX3) (N := 10) (ref := "GlassSpill$View") E 0 3 1 (by decide +kernel) rfl rfl (by decide) (by decide +kernel) rfl rfl dX3_unmarkedKind_21 ?_
      refine V.iload_n E dX3_unmarkedKind_24 rfl rfl ?_
      refine V.ialdN (v := nI (o p)) E 2 rfl (by omega) (by decide) (rfl) dX3_unmarkedKind_25 ?_
      refine V.bipush (v := nI (16)) E dX3_unmarkedKind_26 (by decide) ?_
      refine V.icmp_neN (tgt := 33) E (Nat.lt_of_le_of_lt (ho p hp) (by decide)) (by omega) dX3_unmarkedKind_28 (by decide) (fun q_28 => ?_) (fun q_28 => ?_)
      · refine V.aload_n E dX3_unmarkedKind_33 rfl rfl ?_
        refine V.iload_n E dX3_unmarkedKind_34 rfl rfl ?_
        refine V.bipush (v := nI (16)) E dX3_unmarkedKind_35 (by decide) ?_
        refine V.callV (C := RX3) E (c_X3_isOneBeside G a r o k s t c m e q n p 16 (hp) (by omega) (ho)) (bl []) [] 0 3 rfl rfl rfl gX3_unmarkedKind_X3_isOneBeside rfl ⟨rfl, hd_X3_isOneBeside⟩ ⟨⟨Nat.le_of_ble_eq_true rfl, Nat.le_of_ble_eq_true rfl⟩, Nat.le_of_ble_eq_true rfl, Nat.le_of_ble_eq_true rfl⟩ rfl (Nat.le_of_ble_eq_true rfl) rfl dX3_unmarkedKind_37 (pBs (n := 1) [vwW G a r o k s t c m e q n] [0] [] rfl (by decide)) (kc' := 0) (ks' := 0) rfl rfl (rwI (ws' := (bl [vwW G a r o k s t c m e q n])) (pBs (n := 1) [vwW G a r o k s t c m e q n] [0] [] rfl (by decide)).symm ?_)
        refine V.if_eqB (tgt := 56) E dX3_unmarkedKind_40 (by decide) (fun q_40 => ?_) (fun q_40 => ?_)
        · refine V.iconst (v := nI (1)) E dX3_unmarkedKind_56 (by decide) ?_
          refine V.topN (b := knU o p) (by unfold knU; rw [if_neg q_15, if_neg q_28, if_neg (by rw [q_40]; simp)]) ?_
          exact hend _ _ _ _ dX3_unmarkedKind_57 (nrI _) ⟨rfl, rfl⟩
        · refine V.aload_n E dX3_unmarkedKind_43 rfl rfl ?_
          refine V.iload_n E dX3_unmarkedKind_44 rfl rfl ?_
          refine V.iconst (v := nI (0)) E dX3_unmarkedKind_45 (by decide) ?_
          refine V.callV (C := RX3) E (c_X3_isOneBeside G a r o k s t c m e q n p 0 (hp) (by omega) (ho)) (bl []) [] 0 3 rfl rfl rfl gX3_unmarkedKind_X3_isOneBeside rfl ⟨rfl, hd_X3_isOneBeside⟩ ⟨⟨Nat.le_of_ble_eq_true rfl, Nat.le_of_ble_eq_true rfl⟩, Nat.le_of_ble_eq_true rfl, Nat.le_of_ble_eq_true rfl⟩ rfl (Nat.le_of_ble_eq_true rfl) rfl dX3_unmarkedKind_46 (pBs (n := 1) [vwW G a r o k s t c m e q n] [0] [] rfl (by decide)) (kc' := 0) (ks' := 0) rfl rfl (rwI (ws' := (bl [vwW G a r o k s t c m e q n])) (pBs (n := 1) [vwW G a r o k s t c m e q n] [0] [] rfl (by decide)).symm ?_)
          refine V.if_eqB (tgt := 56) E dX3_unmarkedKind_49 (by decide) (fun q_49 => ?_) (fun q_49 => ?_)
          · refine V.iconst (v := nI (1)) E dX3_unmarkedKind_56 (by decide) ?_
            refine V.topN (b := knU o p) (by unfold knU; rw [if_neg q_15, if_neg q_28, if_neg (by rw [q_40, q_49]; decide)]) ?_
            exact hend _ _ _ _ dX3_unmarkedKind_57 (nrI _) ⟨rfl, rfl⟩
          · refine V.iconst (v := nI (2)) E dX3_unmarkedKind_52 (by decide) ?_
            refine V.goto (tgt := 57) E dX3_unmarkedKind_53 (by decide) ?_
            refine V.topN (b := knU o p) (by unfold knU; rw [if_neg q_15, if_neg q_28, if_pos (by rw [q_40, q_49]; rfl)]) ?_
            exact hend _ _ _ _ dX3_unmarkedKind_57 (nrI _) ⟨rfl, rfl⟩
      · refine V.iconst (v := nI (3)) E dX3_unmarkedKind_31 (by decide) ?_
        refine V.topN (b := knU o p) (by unfold knU; rw [if_neg q_15, if_pos q_28]) ?_
        exact hend _ _ _ _ dX3_unmarkedKind_32 (nrI _) ⟨rfl, rfl⟩
    · refine V.iconst (v := nI (0)) E dX3_unmarkedKind_18 (by decide) ?_
      refine V.topN (b := knU o p) (by unfold knU; rw [if_pos q_15]) ?_
      exact hend _ _ _ _ dX3_unmarkedKind_19 (nrI _) ⟨rfl, rfl⟩
  · exact absurd (okI_n hp (by omega)) (by rw [q_4]; decide)
abbrev rm_c_X3_findKinds : Room := { frames := 3, cells := 0, slots := 0, locals := 67 }
theorem hd_X3_findKinds : yX3_findKinds.cls ≠ "java/lang/invoke/MethodHandle" ∧ yX3_findKinds.cls ≠ "java/lang/invoke/VarHandle" ∧ (parseMethodDescriptor yX3_findKinds.desc).map (fun d => d.parameters.length) = some 1 := by decide +kernel
set_option maxRecDepth 100000 in
set_option maxHeartbeats 8000000 in
theorem c_X3_findKinds (G : VC) (a : Nat → Nat) (r : Nat → Nat) (o : Nat → Nat) (k : Nat → Nat) (s : Nat → Nat) (t : Nat → Nat) (c : Nat → Nat) (m : Nat → Nat) (e : Nat → Nat) (q : Nat → Nat) (n : Nat) (b : Nat → Nat) (x : SC) (hx : SInv x) (ho : ∀ j, j < 48 → o j ≤ 16) : Ctr yX3_findKinds wsX3_findKinds rm_c_X3_findKinds G [.ref (a 0), .ref (b 0)] (bl [vwW G a r o k s t c m e q n, scW G b x]) (fun v9_ u9_ => u9_ = (bl [vwW G a r o (kndG x o) s t c m e q n, scW G b x]) ∧ v9_ = none) := by
  refine Ctr.void (cc := cX3_findKinds) (maxL := 3) (lv0 := [some (.ref (a 0)), some (.ref (b 0)), none]) (by decide) rfl rfl rfl (Nat.le_of_ble_eq_true rfl) (fun A X E hinit hend => ?_)
  refine V.iconst (v := nI (0)) E dX3_findKinds_0 (by decide) ?_
  refine V.istore_n (lv' := [some (.ref (a 0)), some (.ref (b 0)), some (.int (nI (0)))]) E dX3_findKinds_1 rfl (Nat.le_of_ble_eq_true rfl) rfl rfl ?_
  refine V.arr (f' := nA (mxn 0 (kndG x o) k)) (ws' := (bl [vwW G a r o (mxn 0 (kndG x o) k) s t c m e q n, scW G b x])) 3 rfl (fun j _ => mxn_0 j) rfl ?_
  refine loopN (P := fun i2 => V G A X rm_c_X3_findKinds (bl [vwW G a r o (mxn i2 (kndG x o) k) s t c m e q n, scW G b x]) 0 0 2 [some (.ref (a 0)), some (.ref (b 0)), some (.int (nI (i2)))] []) 48 (fun i2 hi_2 ih_2 => ?_) 0 (Nat.zero_le _)
  refine V.iload_n E dX3_findKinds_2 rfl rfl ?_
  refine V.bipush (v := nI (48)) E dX3_findKinds_3 (by decide) ?_
  refine V.icmp_geN (tgt := 38) E (by omega) (by omega) dX3_findKinds_5 (by decide) (fun q_5 => ?_) (fun q_5 => ?_)
  · obtain rfl : i2 = 48 := by omega
    refine V.arr (f' := nA (kndG x o)) (ws' := (bl [vwW G a r o (kndG x o) s t c m e q n, scW G b x])) 3 rfl (fun j hj => mxn_n j hj) rfl ?_
    exact hend _ _ _ dX3_findKinds_38 ⟨rfl, rfl⟩
  · refine V.aload_n E dX3_findKinds_8 rfl rfl ?_
    refine V.getf (C := RX3) (T := TX3) (N := 10) (ref := "GlassSpill$View") E 0 3 2 (by decide +kernel) rfl rfl (by decide) (by decide +kernel) rfl rfl dX3_findKinds_9 ?_
    refine V.iload_n E dX3_findKinds_12 rfl rfl ?_
    refine V.aload_n E dX3_findKinds_13 rfl rfl ?_
    refine V.getf (C := RX2) (T := TX2) (N := 5) (ref := "GlassSpill$Scene") E 10 2 3 (by decide +kernel) rfl rfl (by decide) (by decide +kernel) rfl rfl dX3_findKinds_14 ?_
    refine V.iload_n E dX3_findKinds_17 rfl rfl ?_
    refine V.zaldN (v := nI (scG x i2)) E 14 rfl (by omega) (by decide) (rfl) dX3_findKinds_18 ?_
    refine V.if_eqN (tgt := 26) E ((Nat.lt_of_le_of_lt (hx.g _ (by omega)) (by decide))) dX3_findKinds_19 (by decide) (fun q_19 => ?_) (fun q_19 => ?_)
    · refine V.aload_n E dX3_findKinds_26 rfl rfl ?_
      refine V.iload_n E dX3_findKinds_27 rfl rfl ?_
      refine V.callV (C := RX3) E (c_X3_unmarkedKind G a r o (mxn i2 (kndG x o) k) s t c m e q n i2 (by omega) (ho)) (bl [scW G b x]) [.int (nI (i2)), .ref (a 3)] 0 3 rfl rfl rfl gX3_findKinds_X3_unmarkedKind rfl ⟨rfl, hd_X3_unmarkedKind⟩ ⟨⟨Nat.le_of_ble_eq_true rfl, Nat.le_of_ble_eq_true rfl⟩, Nat.le_of_ble_eq_true rfl, Nat.le_of_ble_eq_true rfl⟩ rfl (Nat.le_of_ble_eq_true rfl) rfl dX3_findKinds_28 (pBs (n := 2) [vwW G a r o (mxn i2 (kndG x o) k) s t c m e q n, scW G b x] [0] [1] rfl (by decide)) (kc' := 0) (ks' := 0) rfl rfl (rwI (ws' := (bl [vwW G a r o (mxn i2 (kndG x o) k) s t c m e q n, scW G b x])) (pBs (n := 2) [vwW G a r o (mxn i2 (kndG x o) k) s t c m e q n, scW G b x] [0] [1] rfl (by decide)).symm ?_)
      refine V.iastN (f' := nA (mxn (i2 + 1) (kndG x o) k)) (ws' := (bl [vwW G a r o (mxn (i2 + 1) (kndG x o) k) s t c m e q n, scW G b x])) E 3 rfl (by omega) (by decide) dX3_findKinds_31 (fun j _ => mxn_u (by unfold kndG; rw [if_neg (by omega)]) j) rfl ?_
      refine V.iincN (lv' := [some (.ref (a 0)), some (.ref (b 0)), some (.int (nI (i2 + 1)))]) E dX3_findKinds_32 rfl (Nat.le_of_ble_eq_true rfl) rfl rfl ?_
      refine V.goto (tgt := 2) E dX3_findKinds_35 (by decide) ?_
      exact ih_2 (by omega)
    · refine V.iconst (v := nI (4)) E dX3_findKinds_22 (by decide) ?_
      refine V.goto (tgt := 31) E dX3_findKinds_23 (by decide) ?_
      refine V.iastN (f' := nA (mxn (i2 + 1) (kndG x o) k)) (ws' := (bl [vwW G a r o (mxn (i2 + 1) (kndG x o) k) s t c m e q n, scW G b x])) E 3 rfl (by omega) (by decide) dX3_findKinds_31 (fun j _ => mxn_u (by unfold kndG; rw [if_pos (by have := hx.g i2 (by omega); omega)]) j) rfl ?_
      refine V.iincN (lv' := [some (.ref (a 0)), some (.ref (b 0)), some (.int (nI (i2 + 1)))]) E dX3_findKinds_32 rfl (Nat.le_of_ble_eq_true rfl) rfl rfl ?_
      refine V.goto (tgt := 2) E dX3_findKinds_35 (by decide) ?_
      exact ih_2 (by omega)
abbrev rm_c_X3_compose : Room := { frames := 3, cells := 0, slots := 0, locals := 66 }
theorem hd_X3_compose : yX3_compose.cls ≠ "java/lang/invoke/MethodHandle" ∧ yX3_compose.cls ≠ "java/lang/invoke/VarHandle" ∧ (parseMethodDescriptor yX3_compose.desc).map (fun d => d.parameters.length) = some 1 := by decide +kernel
set_option maxRecDepth 100000 in
set_option maxHeartbeats 8000000 in
theorem c_X3_compose (G : VC) (a : Nat → Nat) (r : Nat → Nat) (o : Nat → Nat) (k : Nat → Nat) (s : Nat → Nat) (t : Nat → Nat) (c : Nat → Nat) (m : Nat → Nat) (e : Nat → Nat) (q : Nat → Nat) (n : Nat) (b : Nat → Nat) (x : SC) (hx : SInv x) (ho : ∀ j, j < 48 → o j ≤ 16) (hk : ∀ j, j < 48 → k j ≤ 4) : Ctr yX3_compose wsX3_compose rm_c_X3_compose G [.ref (a 0), .ref (b 0)] (bl [vwW G a r o k s t c m e q n, scW G b x]) (fun v9_ u9_ => u9_ = (bl [vwW G a r o k (splF x) (tkG x k) (clG x k) (cmG x k o) e q n, scW G b x]) ∧ v9_ = none) := by
  refine Ctr.void (cc := cX3_compose) (maxL := 4) (lv0 := [some (.ref (a 0)), some (.ref (b 0)), none, none]) (by decide) rfl rfl rfl (Nat.le_of_ble_eq_true rfl) (fun A X E hinit hend => ?_)
  refine V.aload_n E dX3_compose_0 rfl rfl ?_
  refine V.getf (C := RX2) (T := TX2) (N := 5) (ref := "GlassSpill$Scene") E 10 2 4 (by decide +kernel) rfl rfl (by decide) (by decide +kernel) rfl rfl dX3_compose_1 ?_
  refine V.callSN (host := "GlassSpill")  E (c_X4_mainPart G (scC x) (hx.c)) (bl [vwW G a r o k s t c m e q n, scW G b x]) [] gX3_compose_X4_mainPart_n62 rfl (by decide +kernel) (by decide +kernel) (by decide +kernel) hd_X4_mainPart ⟨⟨Nat.le_of_ble_eq_true rfl, Nat.le_of_ble_eq_true rfl⟩, Nat.le_of_ble_eq_true rfl, Nat.le_of_ble_eq_true rfl⟩ rfl (Nat.le_of_ble_eq_true rfl) rfl dX3_compose_4 (List.Perm.refl _) (kc' := 0) (ks' := 0) rfl rfl (rwI (ws' := (bl [vwW G a r o k s t c m e q n, scW G b x])) (List.Perm.refl _) ?_)
  refine V.istore_n (lv' := [some (.ref (a 0)), some (.ref (b 0)), some (.int (nI (mainP (scC x)))), none]) E dX3_compose_7 rfl (Nat.le_of_ble_eq_true rfl) rfl rfl ?_
  refine V.iconst (v := nI (0)) E dX3_compose_8 (by decide) ?_
  refine V.istore_n (lv' := [some (.ref (a 0)), some (.ref (b 0)), some (.int (nI (mainP (scC x)))), some (.int (nI (0)))]) E dX3_compose_9 rfl (Nat.le_of_ble_eq_true rfl) rfl rfl ?_
  refine V.arr (f' := nA (mxn 0 (splF x) s)) (ws' := (bl [vwW G a r o k (mxn 0 (splF x) s) t c m e q n, scW G b x])) 4 rfl (fun j _ => mxn_0 j) rfl ?_
  refine V.arr (f' := nA (mxn 0 (tkG x k) t)) (ws' := (bl [vwW G a r o k (mxn 0 (splF x) s) (mxn 0 (tkG x k) t) c m e q n, scW G b x])) 5 rfl (fun j _ => mxn_0 j) rfl ?_
  refine V.arr (f' := nA (mxn 0 (clG x k) c)) (ws' := (bl [vwW G a r o k (mxn 0 (splF x) s) (mxn 0 (tkG x k) t) (mxn 0 (clG x k) c) m e q n, scW G b x])) 6 rfl (fun j _ => mxn_0 j) rfl ?_
  refine V.arr (f' := nA (mxn 0 (cmG x k o) m)) (ws' := (bl [vwW G a r o k (mxn 0 (splF x) s) (mxn 0 (tkG x k) t) (mxn 0 (clG x k) c) (mxn 0 (cmG x k o) m) e q n, scW G b x])) 7 rfl (fun j _ => mxn_0 j) rfl ?_
  refine loopN (P := fun i10 => V G A X rm_c_X3_compose (bl [vwW G a r o k (mxn i10 (splF x) s) (mxn i10 (tkG x k) t) (mxn i10 (clG x k) c) (mxn i10 (cmG x k o) m) e q n, scW G b x]) 0 0 10 [some (.ref (a 0)), some (.ref (b 0)), some (.int (nI (mainP (scC x)))), some (.int (nI (i10)))] []) 48 (fun i10 hi_10 ih_10 => ?_) 0 (Nat.zero_le _)
  refine V.iload_n E dX3_compose_10 rfl rfl ?_
  refine V.bipush (v := nI (48)) E dX3_compose_11 (by decide) ?_
  refine V.icmp_geN (tgt := 115) E (by omega) (by omega) dX3_compose_13 (by decide) (fun q_13 => ?_) (fun q_13 => ?_)
  · obtain rfl : i10 = 48 := by omega
    refine V.arr (f' := nA (splF x)) (ws' := (bl [vwW G a r o k (splF x) (mxn 48 (tkG x k) t) (mxn 48 (clG x k) c) (mxn 48 (cmG x k o) m) e q n, scW G b x])) 4 rfl (fun j hj => mxn_n j hj) rfl ?_
    refine V.arr (f' := nA (tkG x k)) (ws' := (bl [vwW G a r o k (splF x) (tkG x k) (mxn 48 (clG x k) c) (mxn 48 (cmG x k o) m) e q n, scW G b x])) 5 rfl (fun j hj => mxn_n j hj) rfl ?_
    refine V.arr (f' := nA (clG x k)) (ws' := (bl [vwW G a r o k (splF x) (tkG x k) (clG x k) (mxn 48 (cmG x k o) m) e q n, scW G b x])) 6 rfl (fun j hj => mxn_n j hj) rfl ?_
    refine V.arr (f' := nA (cmG x k o)) (ws' := (bl [vwW G a r o k (splF x) (tkG x k) (clG x k) (cmG x k o) e q n, scW G b x])) 7 rfl (fun j hj => mxn_n j hj) rfl ?_
    exact hend _ _ _ dX3_compose_115 ⟨rfl, rfl⟩
  · refine V.aload_n E dX3_compose_16 rfl rfl ?_
    refine V.getf (C := RX3) (T := TX3) (N := 10) (ref := "GlassSpill$View") E 0 3 3 (by decide +kernel) rfl rfl (by decide) (by decide +kernel) rfl rfl dX3_compose_17 ?_
    refine V.iload_n E dX3_compose_20 rfl rfl ?_
    refine V.aload_n E dX3_compose_21 rfl rfl ?_
    refine V.getf (C := RX2) (T := TX2) (N := 5) (ref := "GlassSpill$Scene") E 10 2 1 (by decide +kernel) rfl rfl (by decide) (by decide +kernel) rfl rfl dX3_compose_22 ?_
    refine V.iload_n E dX3_compose_25 rfl rfl ?_
    refine V.ialdN (v := nI (scF x i10)) E 12 rfl (by omega) (by decide) (rfl) dX3_compose_26 ?_
    refine V.iload_n E dX3_compose_27 rfl rfl ?_
    refine V.callSN (host := "GlassSpill")  E (c_X4_spillIn G (scF x i10) (mainP (scC x)) (hx.f _ (by omega)) (mainP_lt _)) (bl [vwW G a r o k (mxn i10 (splF x) s) (mxn i10 (tkG x k) t) (mxn i10 (clG x k) c) (mxn i10 (cmG x k o) m) e q n, scW G b x]) [.int (nI (i10)), .ref (a 4)] gX3_compose_X4_spillIn_n66 rfl (by decide +kernel) (by decide +kernel) (by decide +kernel) hd_X4_spillIn ⟨⟨Nat.le_of_ble_eq_true rfl, Nat.le_of_ble_eq_true rfl⟩, Nat.le_of_ble_eq_true rfl, Nat.le_of_ble_eq_true rfl⟩ rfl (Nat.le_of_ble_eq_true rfl) rfl dX3_compose_28 (List.Perm.refl _) (kc' := 0) (ks' := 0) rfl rfl (rwI (ws' := (bl [vwW G a r o k (mxn i10 (splF x) s) (mxn i10 (tkG x k) t) (mxn i10 (clG x k) c) (mxn i10 (cmG x k o) m) e q n, scW G b x])) (List.Perm.refl _) ?_)
    refine V.iastN (f' := nA (mxn (i10 + 1) (splF x) s)) (ws' := (bl [vwW G a r o k (mxn (i10 + 1) (splF x) s) (mxn i10 (tkG x k) t) (mxn i10 (clG x k) c) (mxn i10 (cmG x k o) m) e q n, scW G b x])) E 4 rfl (by omega) (by decide) dX3_compose_31 (fun j _ => mxn_u rfl j) rfl ?_
    refine V.aload_n E dX3_compose_32 rfl rfl ?_
    refine V.getf (C := RX3) (T := TX3) (N := 10) (ref := "GlassSpill$View") E 0 3 4 (by decide +kernel) rfl rfl (by decide) (by decide +kernel) rfl rfl dX3_compose_33 ?_
    refine V.iload_n E dX3_compose_36 rfl rfl ?_
    refine V.aload_n E dX3_compose_37 rfl rfl ?_
    refine V.getf (C := RX3) (T := TX3) (N := 10) (ref := "GlassSpill$View") E 0 3 3 (by decide +kernel) rfl rfl (by decide) (by decide +kernel) rfl rfl dX3_compose_38 ?_
    refine V.iload_n E dX3_compose_41 rfl rfl ?_
    refine V.ialdN (v := nI (splF x i10)) E 4 rfl (by omega) (by decide) (congrArg nI mxn_at) dX3_compose_42 ?_
    refine V.aload_n E dX3_compose_43 rfl rfl ?_
    refine V.aload_n E dX3_compose_44 rfl rfl ?_
    refine V.getf (C := RX3) (T := TX3) (N := 10) (ref := "GlassSpill$View") E 0 3 2 (by decide +kernel) rfl rfl (by decide) (by decide +kernel) rfl rfl dX3_compose_45 ?_
    refine V.iload_n E dX3_compose_48 rfl rfl ?_
    refine V.ialdN (v := nI (k i10)) E 3 rfl (by omega) (by decide) (rfl) dX3_compose_49 ?_
    refine V.callS E (c_X3_share G b x (k i10) (hk _ (by omega))) (bl [vwW G a r o k (mxn (i10 + 1) (splF x) s) (mxn i10 (tkG x k) t) (mxn i10 (clG x k) c) (mxn i10 (cmG x k o) m) e q n]) [.int (nI (splF x i10)), .int (nI (i10)), .ref (a 5)] gX3_compose_X3_share rfl hd_X3_share ⟨⟨Nat.le_of_ble_eq_true rfl, Nat.le_of_ble_eq_true rfl⟩, Nat.le_of_ble_eq_true rfl, Nat.le_of_ble_eq_true rfl⟩ rfl (Nat.le_of_ble_eq_true rfl) rfl dX3_compose_50 (pBs (n := 2) [vwW G a r o k (mxn (i10 + 1) (splF x) s) (mxn i10 (tkG x k) t) (mxn i10 (clG x k) c) (mxn i10 (cmG x k o) m) e q n, scW G b x] [1] [0] rfl (by decide)) (kc' := 0) (ks' := 0) rfl rfl (rwI (ws' := (bl [vwW G a r o k (mxn (i10 + 1) (splF x) s) (mxn i10 (tkG x k) t) (mxn i10 (clG x k) c) (mxn i10 (cmG x k o) m) e q n, scW G b x])) (pBs (n := 2) [vwW G a r o k (mxn (i10 + 1) (splF x) s) (mxn i10 (tkG x k) t) (mxn i10 (clG x k) c) (mxn i10 (cmG x k o) m) e q n, scW G b x] [1] [0] rfl (by decide)).symm ?_)
    refine V.imulN E  dX3_compose_53 ?_
    refine V.bipush (v := nI (16)) E dX3_compose_54 (by decide) ?_
    refine V.idivN E (Nat.lt_trans (tkG_num hx k i10) (by decide)) (by decide) (by decide) dX3_compose_56 ?_
    refine V.iastN (f' := nA (mxn (i10 + 1) (tkG x k) t)) (ws' := (bl [vwW G a r o k (mxn (i10 + 1) (splF x) s) (mxn (i10 + 1) (tkG x k) t) (mxn i10 (clG x k) c) (mxn i10 (cmG x k o) m) e q n, scW G b x])) E 5 rfl (by omega) (by decide) dX3_compose_57 (fun j _ => mxn_u rfl j) rfl ?_
    refine V.aload_n E dX3_compose_58 rfl rfl ?_
    refine V.getf (C := RX3) (T := TX3) (N := 10) (ref := "GlassSpill$View") E 0 3 5 (by decide +kernel) rfl rfl (by decide) (by decide +kernel) rfl rfl dX3_compose_59 ?_
    refine V.iload_n E dX3_compose_62 rfl rfl ?_
    refine V.aload_n E dX3_compose_63 rfl rfl ?_
    refine V.getf (C := RX2) (T := TX2) (N := 5) (ref := "GlassSpill$Scene") E 10 2 1 (by decide +kernel) rfl rfl (by decide) (by decide +kernel) rfl rfl dX3_compose_64 ?_
    refine V.iload_n E dX3_compose_67 rfl rfl ?_
    refine V.ialdN (v := nI (scF x i10)) E 12 rfl (by omega) (by decide) (rfl) dX3_compose_68 ?_
    refine V.aload_n E dX3_compose_69 rfl rfl ?_
    refine V.getf (C := RX3) (T := TX3) (N := 10) (ref := "GlassSpill$View") E 0 3 4 (by decide +kernel) rfl rfl (by decide) (by decide +kernel) rfl rfl dX3_compose_70 ?_
    refine V.iload_n E dX3_compose_73 rfl rfl ?_
    refine V.ialdN (v := nI (tkG x k i10)) E 5 rfl (by omega) (by decide) (congrArg nI mxn_at) dX3_compose_74 ?_
    refine V.iload_n E dX3_compose_75 rfl rfl ?_
    refine V.callSN (host := "GlassSpill")  E (c_X4_partShift G (mainP (scC x)) (mainP_lt _)) (bl [vwW G a r o k (mxn (i10 + 1) (splF x) s) (mxn (i10 + 1) (tkG x k) t) (mxn i10 (clG x k) c) (mxn i10 (cmG x k o) m) e q n, scW G b x]) [.int (nI (tkG x k i10)), .int (nI (scF x i10)), .int (nI (i10)), .ref (a 6)] gX3_compose_X4_partShift_n114 rfl (by decide +kernel) (by decide +kernel) (by decide +kernel) hd_X4_partShift ⟨⟨Nat.le_of_ble_eq_true rfl, Nat.le_of_ble_eq_true rfl⟩, Nat.le_of_ble_eq_true rfl, Nat.le_of_ble_eq_true rfl⟩ rfl (Nat.le_of_ble_eq_true rfl) rfl dX3_compose_76 (List.Perm.refl _) (kc' := 0) (ks' := 0) rfl rfl (rwI (ws' := (bl [vwW G a r o k (mxn (i10 + 1) (splF x) s) (mxn (i10 + 1) (tkG x k) t) (mxn i10 (clG x k) c) (mxn i10 (cmG x k o) m) e q n, scW G b x])) (List.Perm.refl _) ?_)
    refine V.ishlN E (Nat.lt_of_le_of_lt (tkG_mul hx k i10) (by have := hx.f i10 (by omega); omega)) (by omega) dX3_compose_79 ?_
    refine V.isubN E (tkG_mul hx k i10) dX3_compose_80 ?_
    refine V.iastN (f' := nA (mxn (i10 + 1) (clG x k) c)) (ws' := (bl [vwW G a r o k (mxn (i10 + 1) (splF x) s) (mxn (i10 + 1) (tkG x k) t) (mxn (i10 + 1) (clG x k) c) (mxn i10 (cmG x k o) m) e q n, scW G b x])) E 6 rfl (by omega) (by decide) dX3_compose_81 (fun j _ => mxn_u rfl j) rfl ?_
    refine V.aload_n E dX3_compose_82 rfl rfl ?_
    refine V.getf (C := RX3) (T := TX3) (N := 10) (ref := "GlassSpill$View") E 0 3 6 (by decide +kernel) rfl rfl (by decide) (by decide +kernel) rfl rfl dX3_compose_83 ?_
    refine V.iload_n E dX3_compose_86 rfl rfl ?_
    refine V.aload_n E dX3_compose_87 rfl rfl ?_
    refine V.getf (C := RX3) (T := TX3) (N := 10) (ref := "GlassSpill$View") E 0 3 5 (by decide +kernel) rfl rfl (by decide) (by decide +kernel) rfl rfl dX3_compose_88 ?_
    refine V.iload_n E dX3_compose_91 rfl rfl ?_
    refine V.ialdN (v := nI (clG x k i10)) E 6 rfl (by omega) (by decide) (congrArg nI mxn_at) dX3_compose_92 ?_
    refine V.aload_n E dX3_compose_93 rfl rfl ?_
    refine V.getf (C := RX2) (T := TX2) (N := 5) (ref := "GlassSpill$Scene") E 10 2 2 (by decide +kernel) rfl rfl (by decide) (by decide +kernel) rfl rfl dX3_compose_94 ?_
    refine V.iload_n E dX3_compose_97 rfl rfl ?_
    refine V.ialdN (v := nI (scB x i10)) E 13 rfl (by omega) (by decide) (rfl) dX3_compose_98 ?_
    refine V.aload_n E dX3_compose_99 rfl rfl ?_
    refine V.getf (C := RX3) (T := TX3) (N := 10) (ref := "GlassSpill$View") E 0 3 1 (by decide +kernel) rfl rfl (by decide) (by decide +kernel) rfl rfl dX3_compose_100 ?_
    refine V.iload_n E dX3_compose_103 rfl rfl ?_
    refine V.ialdN (v := nI (o i10)) E 2 rfl (by omega) (by decide) (rfl) dX3_compose_104 ?_
    refine V.callSN (host := "GlassSpill")  E (c_X4_composedColour G (clG x k i10) (scB x i10) (o i10) (clG_lt hx k (by omega)) (hx.b _ (by omega)) (ho _ (by omega))) (bl [vwW G a r o k (mxn (i10 + 1) (splF x) s) (mxn (i10 + 1) (tkG x k) t) (mxn (i10 + 1) (clG x k) c) (mxn i10 (cmG x k o) m) e q n, scW G b x]) [.int (nI (i10)), .ref (a 7)] gX3_compose_X4_composedColour_n120 rfl (by decide +kernel) (by decide +kernel) (by decide +kernel) hd_X4_composedColour ⟨⟨Nat.le_of_ble_eq_true rfl, Nat.le_of_ble_eq_true rfl⟩, Nat.le_of_ble_eq_true rfl, Nat.le_of_ble_eq_true rfl⟩ rfl (Nat.le_of_ble_eq_true rfl) rfl dX3_compose_105 (List.Perm.refl _) (kc' := 0) (ks' := 0) rfl rfl (rwI (ws' := (bl [vwW G a r o k (mxn (i10 + 1) (splF x) s) (mxn (i10 + 1) (tkG x k) t) (mxn (i10 + 1) (clG x k) c) (mxn i10 (cmG x k o) m) e q n, scW G b x])) (List.Perm.refl _) ?_)
    refine V.iastN (f' := nA (mxn (i10 + 1) (cmG x k o) m)) (ws' := (bl [vwW G a r o k (mxn (i10 + 1) (splF x) s) (mxn (i10 + 1) (tkG x k) t) (mxn (i10 + 1) (clG x k) c) (mxn (i10 + 1) (cmG x k o) m) e q n, scW G b x])) E 7 rfl (by omega) (by decide) dX3_compose_108 (fun j _ => mxn_u rfl j) rfl ?_
    refine V.iincN (lv' := [some (.ref (a 0)), some (.ref (b 0)), some (.int (nI (mainP (scC x)))), some (.int (nI (i10 + 1)))]) E dX3_compose_109 rfl (Nat.le_of_ble_eq_true rfl) rfl rfl ?_
    refine V.goto (tgt := 10) E dX3_compose_112 (by decide) ?_
    exact ih_10 (by omega)
abbrev rm_c_X3_show : Room := { frames := 5, cells := 0, slots := 0, locals := 109 }
theorem hd_X3_show : yX3_show.cls ≠ "java/lang/invoke/MethodHandle" ∧ yX3_show.cls ≠ "java/lang/invoke/VarHandle" ∧ (parseMethodDescriptor yX3_show.desc).map (fun d => d.parameters.length) = some 1 := by decide +kernel
set_option maxRecDepth 100000 in
set_option maxHeartbeats 8000000 in
theorem c_X3_show (G : VC) (a : Nat → Nat) (r : Nat → Nat) (o : Nat → Nat) (k : Nat → Nat) (s : Nat → Nat) (t : Nat → Nat) (c : Nat → Nat) (m : Nat → Nat) (e : Nat → Nat) (q : Nat → Nat) (n : Nat) (b : Nat → Nat) (x : SC) (hx : SInv x) : Ctr yX3_show wsX3_show rm_c_X3_show G [.ref (a 0), .ref (b 0)] (bl [vwW G a r o k s t c m e q n, scW G b x]) (fun v9_ u9_ => ∃ z : GZ, u9_ = (bl [vwW G a (rawF x) (opqF x) (kndF x) (splF x) (tknF x) (clnF x) (cmpF x) z.1 z.2.1 z.2.2, scW G b x]) ∧ v9_ = none ∧ (True)) := by
  refine Ctr.void (cc := cX3_show) (maxL := 2) (lv0 := [some (.ref (a 0)), some (.ref (b 0))]) (by decide) rfl rfl rfl (Nat.le_of_ble_eq_true rfl) (fun A X E hinit hend => ?_)
  refine V.aload_n E dX3_show_0 rfl rfl ?_
  refine V.aload_n E dX3_show_1 rfl rfl ?_
  refine V.callV (C := RX3) E (c_X3_findOpaque G a r o k s t c m e q n b x (hx)) (bl []) [] 0 3 rfl rfl rfl gX3_show_X3_findOpaque rfl ⟨rfl, hd_X3_findOpaque⟩ ⟨⟨Nat.le_of_ble_eq_true rfl, Nat.le_of_ble_eq_true rfl⟩, Nat.le_of_ble_eq_true rfl, Nat.le_of_ble_eq_true rfl⟩ rfl (Nat.le_of_ble_eq_true rfl) rfl dX3_show_2 (pBs (n := 2) [vwW G a r o k s t c m e q n, scW G b x] [0, 1] [] rfl (by decide)) (kc' := 0) (ks' := 0) rfl rfl (rxV (ws' := fun (g_2 : GZ) => (bl [vwW G a (rawF x) (opqF x) k s t c m g_2.1 g_2.2.1 g_2.2.2, scW G b x])) (fun g_2 => (pBs (n := 2) [vwW G a (rawF x) (opqF x) k s t c m g_2.1 g_2.2.1 g_2.2.2, scW G b x] [0, 1] [] rfl (by decide)).symm) (fun g_2 hf_2 => ?_))
  refine V.aload_n E dX3_show_5 rfl rfl ?_
  refine V.aload_n E dX3_show_6 rfl rfl ?_
  refine V.callV (C := RX3) E (c_X3_findKinds G a (rawF x) (opqF x) k s t c m g_2.1 g_2.2.1 g_2.2.2 b x (hx) (fun j _ => opqF_le x j)) (bl []) [] 0 3 rfl rfl rfl gX3_show_X3_findKinds rfl ⟨rfl, hd_X3_findKinds⟩ ⟨⟨Nat.le_of_ble_eq_true rfl, Nat.le_of_ble_eq_true rfl⟩, Nat.le_of_ble_eq_true rfl, Nat.le_of_ble_eq_true rfl⟩ rfl (Nat.le_of_ble_eq_true rfl) rfl dX3_show_7 (pBs (n := 2) [vwW G a (rawF x) (opqF x) k s t c m g_2.1 g_2.2.1 g_2.2.2, scW G b x] [0, 1] [] rfl (by decide)) (kc' := 0) (ks' := 0) rfl rfl (rwV (ws' := (bl [vwW G a (rawF x) (opqF x) (kndG x (opqF x)) s t c m g_2.1 g_2.2.1 g_2.2.2, scW G b x])) (pBs (n := 2) [vwW G a (rawF x) (opqF x) (kndG x (opqF x)) s t c m g_2.1 g_2.2.1 g_2.2.2, scW G b x] [0, 1] [] rfl (by decide)).symm ?_)
  refine V.aload_n E dX3_show_10 rfl rfl ?_
  refine V.aload_n E dX3_show_11 rfl rfl ?_
  refine V.callV (C := RX3) E (c_X3_compose G a (rawF x) (opqF x) (kndF x) s t c m g_2.1 g_2.2.1 g_2.2.2 b x (hx) (fun j _ => opqF_le x j) (fun j _ => kndF_le x j)) (bl []) [] 0 3 rfl rfl rfl gX3_show_X3_compose rfl ⟨rfl, hd_X3_compose⟩ ⟨⟨Nat.le_of_ble_eq_true rfl, Nat.le_of_ble_eq_true rfl⟩, Nat.le_of_ble_eq_true rfl, Nat.le_of_ble_eq_true rfl⟩ rfl (Nat.le_of_ble_eq_true rfl) rfl dX3_show_12 (pBs (n := 2) [vwW G a (rawF x) (opqF x) (kndF x) s t c m g_2.1 g_2.2.1 g_2.2.2, scW G b x] [0, 1] [] rfl (by decide)) (kc' := 0) (ks' := 0) rfl rfl (rwV (ws' := (bl [vwW G a (rawF x) (opqF x) (kndF x) (splF x) (tkG x (kndF x)) (clG x (kndF x)) (cmG x (kndF x) (opqF x)) g_2.1 g_2.2.1 g_2.2.2, scW G b x])) (pBs (n := 2) [vwW G a (rawF x) (opqF x) (kndF x) (splF x) (tkG x (kndF x)) (clG x (kndF x)) (cmG x (kndF x) (opqF x)) g_2.1 g_2.2.1 g_2.2.2, scW G b x] [0, 1] [] rfl (by decide)).symm ?_)
  exact hend _ _ _ dX3_show_15 ⟨g_2, rfl, rfl, trivial⟩
abbrev rm_c_X3_clearPixels : Room := { frames := 5, cells := 0, slots := 0, locals := 109 }
theorem hd_X3_clearPixels : yX3_clearPixels.cls ≠ "java/lang/invoke/MethodHandle" ∧ yX3_clearPixels.cls ≠ "java/lang/invoke/VarHandle" ∧ (parseMethodDescriptor yX3_clearPixels.desc).map (fun d => d.parameters.length) = some 1 := by decide +kernel
set_option maxRecDepth 100000 in
set_option maxHeartbeats 8000000 in
theorem c_X3_clearPixels (G : VC) (a : Nat → Nat) (r : Nat → Nat) (o : Nat → Nat) (k : Nat → Nat) (s : Nat → Nat) (t : Nat → Nat) (c : Nat → Nat) (m : Nat → Nat) (e : Nat → Nat) (q : Nat → Nat) (n : Nat) (b : Nat → Nat) (x : SC) (hx : SInv x) : Ctr yX3_clearPixels wsX3_clearPixels rm_c_X3_clearPixels G [.ref (a 0), .ref (b 0)] (bl [vwW G a r o k s t c m e q n, scW G b x]) (fun v9_ u9_ => ∃ z : GZ, u9_ = (bl [vwW G a (rawF x) (opqF x) k s t c m z.1 z.2.1 z.2.2, scW G b x]) ∧ v9_ = some (.int (nI (sumN 48 (fun j => bN (decide (opqF x j = 0) && decide (scG x j = 0)))))) ∧ (True)) := by
  refine Ctr.int (cc := cX3_clearPixels) (maxL := 4) (ret := (some .int)) (lv0 := [some (.ref (a 0)), some (.ref (b 0)), none, none]) (by decide) rfl rfl rfl (Nat.le_of_ble_eq_true rfl) rfl (fun A X E hend => ?_)
  refine V.aload_n E dX3_clearPixels_0 rfl rfl ?_
  refine V.aload_n E dX3_clearPixels_1 rfl rfl ?_
  refine V.callV (C := RX3) E (c_X3_findOpaque G a r o k s t c m e q n b x (hx)) (bl []) [] 0 3 rfl rfl rfl gX3_clearPixels_X3_findOpaque rfl ⟨rfl, hd_X3_findOpaque⟩ ⟨⟨Nat.le_of_ble_eq_true rfl, Nat.le_of_ble_eq_true rfl⟩, Nat.le_of_ble_eq_true rfl, Nat.le_of_ble_eq_true rfl⟩ rfl (Nat.le_of_ble_eq_true rfl) rfl dX3_clearPixels_2 (pBs (n := 2) [vwW G a r o k s t c m e q n, scW G b x] [0, 1] [] rfl (by decide)) (kc' := 0) (ks' := 0) rfl rfl (rxV (ws' := fun (g_2 : GZ) => (bl [vwW G a (rawF x) (opqF x) k s t c m g_2.1 g_2.2.1 g_2.2.2, scW G b x])) (fun g_2 => (pBs (n := 2) [vwW G a (rawF x) (opqF x) k s t c m g_2.1 g_2.2.1 g_2.2.2, scW G b x] [0, 1] [] rfl (by decide)).symm) (fun g_2 hf_2 => ?_))
  refine V.iconst (v := nI (0)) E dX3_clearPixels_5 (by decide) ?_
  refine V.istore_n (lv' := [some (.ref (a 0)), some (.ref (b 0)), some (.int (nI (0))), none]) E dX3_clearPixels_6 rfl (Nat.le_of_ble_eq_true rfl) rfl rfl ?_
  refine V.iconst (v := nI (0)) E dX3_clearPixels_7 (by decide) ?_
  refine V.istore_n (lv' := [some (.ref (a 0)), some (.ref (b 0)), some (.int (nI (0))), some (.int (nI (0)))]) E dX3_clearPixels_8 rfl (Nat.le_of_ble_eq_true rfl) rfl rfl ?_
  refine V.locN (b := sumN 0 (fun j => bN (decide (opqF x j = 0) && decide (scG x j = 0)))) (lv' := [some (.ref (a 0)), some (.ref (b 0)), some (.int (nI (sumN 0 (fun j => bN (decide (opqF x j = 0) && decide (scG x j = 0)))))), some (.int (nI (0)))]) 2 (rfl) rfl rfl ?_
  refine loopN (P := fun i9 => V G A X rm_c_X3_clearPixels (bl [vwW G a (rawF x) (opqF x) k s t c m g_2.1 g_2.2.1 g_2.2.2, scW G b x]) 0 0 9 [some (.ref (a 0)), some (.ref (b 0)), some (.int (nI (sumN i9 (fun j => bN (decide (opqF x j = 0) && decide (scG x j = 0)))))), some (.int (nI (i9)))] []) 48 (fun i9 hi_9 ih_9 => ?_) 0 (Nat.zero_le _)
  refine V.iload_n E dX3_clearPixels_9 rfl rfl ?_
  refine V.bipush (v := nI (48)) E dX3_clearPixels_10 (by decide) ?_
  refine V.icmp_geN (tgt := 42) E (by omega) (by omega) dX3_clearPixels_12 (by decide) (fun q_12 => ?_) (fun q_12 => ?_)
  · obtain rfl : i9 = 48 := by omega
    refine V.iload_n E dX3_clearPixels_42 rfl rfl ?_
    exact hend _ _ _ _ dX3_clearPixels_43 (nrI _) ⟨g_2, rfl, rfl, trivial⟩
  · refine V.aload_n E dX3_clearPixels_15 rfl rfl ?_
    refine V.getf (C := RX3) (T := TX3) (N := 10) (ref := "GlassSpill$View") E 0 3 1 (by decide +kernel) rfl rfl (by decide) (by decide +kernel) rfl rfl dX3_clearPixels_16 ?_
    refine V.iload_n E dX3_clearPixels_19 rfl rfl ?_
    refine V.ialdN (v := nI ((opqF x) i9)) E 2 rfl (by omega) (by decide) (rfl) dX3_clearPixels_20 ?_
    refine V.if_neN (tgt := 36) E ((Nat.lt_of_le_of_lt (opqF_le x _) (by decide))) dX3_clearPixels_21 (by decide) (fun q_21 => ?_) (fun q_21 => ?_)
    · refine V.iincN (lv' := [some (.ref (a 0)), some (.ref (b 0)), some (.int (nI (sumN i9 (fun j => bN (decide (opqF x j = 0) && decide (scG x j = 0)))))), some (.int (nI (i9 + 1)))]) E dX3_clearPixels_36 rfl (Nat.le_of_ble_eq_true rfl) rfl rfl ?_
      refine V.goto (tgt := 9) E dX3_clearPixels_39 (by decide) ?_
      refine V.locN (b := sumN (i9 + 1) (fun j => bN (decide (opqF x j = 0) && decide (scG x j = 0)))) (lv' := [some (.ref (a 0)), some (.ref (b 0)), some (.int (nI (sumN (i9 + 1) (fun j => bN (decide (opqF x j = 0) && decide (scG x j = 0)))))), some (.int (nI (i9 + 1)))]) 2 (by first | (simp [sumN, bN, q_21]; done) | (simp [sumN, bN, q_21, q_30]; done)) rfl rfl ?_
      exact ih_9 (by omega)
    · refine V.aload_n E dX3_clearPixels_24 rfl rfl ?_
      refine V.getf (C := RX2) (T := TX2) (N := 5) (ref := "GlassSpill$Scene") E 10 2 3 (by decide +kernel) rfl rfl (by decide) (by decide +kernel) rfl rfl dX3_clearPixels_25 ?_
      refine V.iload_n E dX3_clearPixels_28 rfl rfl ?_
      refine V.zaldN (v := nI (scG x i9)) E 14 rfl (by omega) (by decide) (rfl) dX3_clearPixels_29 ?_
      refine V.if_neN (tgt := 36) E ((Nat.lt_of_le_of_lt (hx.g _ (by omega)) (by decide))) dX3_clearPixels_30 (by decide) (fun q_30 => ?_) (fun q_30 => ?_)
      · refine V.iincN (lv' := [some (.ref (a 0)), some (.ref (b 0)), some (.int (nI (sumN i9 (fun j => bN (decide (opqF x j = 0) && decide (scG x j = 0)))))), some (.int (nI (i9 + 1)))]) E dX3_clearPixels_36 rfl (Nat.le_of_ble_eq_true rfl) rfl rfl ?_
        refine V.goto (tgt := 9) E dX3_clearPixels_39 (by decide) ?_
        refine V.locN (b := sumN (i9 + 1) (fun j => bN (decide (opqF x j = 0) && decide (scG x j = 0)))) (lv' := [some (.ref (a 0)), some (.ref (b 0)), some (.int (nI (sumN (i9 + 1) (fun j => bN (decide (opqF x j = 0) && decide (scG x j = 0)))))), some (.int (nI (i9 + 1)))]) 2 (by first | (simp [sumN, bN, q_21]; done) | (simp [sumN, bN, q_21, q_30]; done)) rfl rfl ?_
        exact ih_9 (by omega)
      · refine V.iincN (lv' := [some (.ref (a 0)), some (.ref (b 0)), some (.int (nI (sumN i9 (fun j => bN (decide (opqF x j = 0) && decide (scG x j = 0))) + 1))), some (.int (nI (i9)))]) E dX3_clearPixels_33 rfl (Nat.le_of_ble_eq_true rfl) rfl rfl ?_
        refine V.iincN (lv' := [some (.ref (a 0)), some (.ref (b 0)), some (.int (nI (sumN i9 (fun j => bN (decide (opqF x j = 0) && decide (scG x j = 0))) + 1))), some (.int (nI (i9 + 1)))]) E dX3_clearPixels_36 rfl (Nat.le_of_ble_eq_true rfl) rfl rfl ?_
        refine V.goto (tgt := 9) E dX3_clearPixels_39 (by decide) ?_
        refine V.locN (b := sumN (i9 + 1) (fun j => bN (decide (opqF x j = 0) && decide (scG x j = 0)))) (lv' := [some (.ref (a 0)), some (.ref (b 0)), some (.int (nI (sumN (i9 + 1) (fun j => bN (decide (opqF x j = 0) && decide (scG x j = 0)))))), some (.int (nI (i9 + 1)))]) 2 (by first | (simp [sumN, bN, q_21]; done) | (simp [sumN, bN, q_21, q_30]; done)) rfl rfl ?_
        exact ih_9 (by omega)
