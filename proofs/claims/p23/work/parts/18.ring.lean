/-! the class: the ring of the history -/
def rgu (rg : Nat → SC) (i : Nat) (x : SC) : Nat → SC := fun j => if j = i then x else rg j
def onN (o n : Nat) : Nat := if n = 6 then (o + 1) % 6 else o
theorem mod6 (a : Nat) : a % 6 = 0 ∨ a % 6 = 1 ∨ a % 6 = 2 ∨ a % 6 = 3 ∨ a % 6 = 4 ∨ a % 6 = 5 := by omega
theorem ne1 : (1 : Nat) ≠ 0 := by decide
abbrev rm_c_X0_remember : Room := { frames := 2, cells := 0, slots := 0, locals := 48 }
theorem hd_X0_remember : yX0_remember.cls ≠ "java/lang/invoke/MethodHandle" ∧ yX0_remember.cls ≠ "java/lang/invoke/VarHandle" ∧ (parseMethodDescriptor yX0_remember.desc).map (fun d => d.parameters.length) = some 1 := by decide +kernel
set_option maxRecDepth 100000 in
set_option maxHeartbeats 8000000 in
theorem c_X0_remember (G : VC) (h : Nat → Nat) (ha : AD) (rg : Nat → SC) (o : Nat) (n : Nat) (b : Nat → Nat) (x : SC) (ho6 : o < 6) (hn6 : n ≤ 6) (hx : SInv x) : Ctr yX0_remember wsX0_remember rm_c_X0_remember G [.ref (h 0), .ref (b 0)] (bl [hiW G h ha o n, scW G (ha 0) (rg 0), scW G (ha 1) (rg 1), scW G (ha 2) (rg 2), scW G (ha 3) (rg 3), scW G (ha 4) (rg 4), scW G (ha 5) (rg 5), scW G b x]) (fun v9_ u9_ => u9_ = (bl [hiW G h ha (onN o n) (hlN n), scW G (ha 0) (rgu rg ((o + n) % 6) x 0), scW G (ha 1) (rgu rg ((o + n) % 6) x 1), scW G (ha 2) (rgu rg ((o + n) % 6) x 2), scW G (ha 3) (rgu rg ((o + n) % 6) x 3), scW G (ha 4) (rgu rg ((o + n) % 6) x 4), scW G (ha 5) (rgu rg ((o + n) % 6) x 5), scW G b x]) ∧ v9_ = none) := by
  refine Ctr.void (cc := cX0_remember) (maxL := 3) (lv0 := [some (.ref (h 0)), some (.ref (b 0)), none]) (by decide) rfl rfl rfl (Nat.le_of_ble_eq_true rfl) (fun A X E hinit hend => ?_)
  refine V.aload_n E dX0_remember_0 rfl rfl ?_
  refine V.getf (C := RX0) (T := TX0) (N := 3) (ref := "GlassSpill$History") E 0 0 0 (by decide +kernel) rfl rfl (by decide) (by decide +kernel) rfl rfl dX0_remember_1 ?_
  refine V.aload_n E dX0_remember_4 rfl rfl ?_
  refine V.getf (C := RX0) (T := TX0) (N := 3) (ref := "GlassSpill$History") E 0 0 1 (by decide +kernel) rfl rfl (by decide) (by decide +kernel) rfl rfl dX0_remember_5 ?_
  refine V.aload_n E dX0_remember_8 rfl rfl ?_
  refine V.getf (C := RX0) (T := TX0) (N := 3) (ref := "GlassSpill$History") E 0 0 2 (by decide +kernel) rfl rfl (by decide) (by decide +kernel) rfl rfl dX0_remember_9 ?_
  refine V.iaddN E  dX0_remember_12 ?_
  refine V.bipush (v := nI (6)) E dX0_remember_13 (by decide) ?_
  refine V.callS E (c_J9_floorMod_7cf53 G (o + n) (by omega)) (bl [hiW G h ha o n, scW G (ha 0) (rg 0), scW G (ha 1) (rg 1), scW G (ha 2) (rg 2), scW G (ha 3) (rg 3), scW G (ha 4) (rg 4), scW G (ha 5) (rg 5), scW G b x]) [.ref (h 1)] gX0_remember_J9_floorMod_7cf53 rfl hd_J9_floorMod_7cf53 ⟨⟨Nat.le_of_ble_eq_true rfl, Nat.le_of_ble_eq_true rfl⟩, Nat.le_of_ble_eq_true rfl, Nat.le_of_ble_eq_true rfl⟩ rfl (Nat.le_of_ble_eq_true rfl) rfl dX0_remember_15 (List.Perm.refl _) (kc' := 0) (ks' := 0) rfl rfl (rwI (ws' := (bl [hiW G h ha o n, scW G (ha 0) (rg 0), scW G (ha 1) (rg 1), scW G (ha 2) (rg 2), scW G (ha 3) (rg 3), scW G (ha 4) (rg 4), scW G (ha 5) (rg 5), scW G b x])) (List.Perm.refl _) ?_)
  rcases mod6 (o + n) with hc | hc | hc | hc | hc | hc
  · refine V.topN (b := 0) (hc) ?_
    refine V.aaldN (v := .ref ((ha 0) 0)) E 1 rfl (by omega) (by decide) (rfl) dX0_remember_18 ?_
    refine V.astore_n (lv' := [some (.ref (h 0)), some (.ref (b 0)), some (.ref ((ha 0) 0))]) E dX0_remember_19 rfl (Nat.le_of_ble_eq_true rfl) rfl rfl ?_
    refine V.aload_n E dX0_remember_20 rfl rfl ?_
    refine V.ifnonnull (tgt := 25) E dX0_remember_21 (by decide) ?_
    refine V.aload_n E dX0_remember_25 rfl rfl ?_
    refine V.aload_n E dX0_remember_26 rfl rfl ?_
    refine V.callV (C := RX2) E (c_X2_copyFrom G (ha 0) b (rg 0) x (hx)) (bl [hiW G h ha o n, scW G (ha 1) (rg 1), scW G (ha 2) (rg 2), scW G (ha 3) (rg 3), scW G (ha 4) (rg 4), scW G (ha 5) (rg 5)]) [] 2 2 rfl rfl rfl gX0_remember_X2_copyFrom rfl ⟨rfl, hd_X2_copyFrom⟩ ⟨⟨Nat.le_of_ble_eq_true rfl, Nat.le_of_ble_eq_true rfl⟩, Nat.le_of_ble_eq_true rfl, Nat.le_of_ble_eq_true rfl⟩ rfl (Nat.le_of_ble_eq_true rfl) rfl dX0_remember_27 (pBs (n := 8) [hiW G h ha o n, scW G (ha 0) (rg 0), scW G (ha 1) (rg 1), scW G (ha 2) (rg 2), scW G (ha 3) (rg 3), scW G (ha 4) (rg 4), scW G (ha 5) (rg 5), scW G b x] [1, 7] [0, 2, 3, 4, 5, 6] rfl (by decide)) (kc' := 0) (ks' := 0) rfl rfl (rwV (ws' := (bl [hiW G h ha o n, scW G (ha 0) x, scW G (ha 1) (rg 1), scW G (ha 2) (rg 2), scW G (ha 3) (rg 3), scW G (ha 4) (rg 4), scW G (ha 5) (rg 5), scW G b x])) (pBs (n := 8) [hiW G h ha o n, scW G (ha 0) x, scW G (ha 1) (rg 1), scW G (ha 2) (rg 2), scW G (ha 3) (rg 3), scW G (ha 4) (rg 4), scW G (ha 5) (rg 5), scW G b x] [1, 7] [0, 2, 3, 4, 5, 6] rfl (by decide)).symm ?_)
    refine V.aload_n E dX0_remember_30 rfl rfl ?_
    refine V.getf (C := RX0) (T := TX0) (N := 3) (ref := "GlassSpill$History") E 0 0 2 (by decide +kernel) rfl rfl (by decide) (by decide +kernel) rfl rfl dX0_remember_31 ?_
    refine V.bipush (v := nI (6)) E dX0_remember_34 (by decide) ?_
    refine V.icmp_geN (tgt := 52) E (by omega) (by decide) dX0_remember_36 (by decide) (fun q_36 => ?_) (fun q_36 => ?_)
    · refine V.aload_n E dX0_remember_52 rfl rfl ?_
      refine V.aload_n E dX0_remember_53 rfl rfl ?_
      refine V.getf (C := RX0) (T := TX0) (N := 3) (ref := "GlassSpill$History") E 0 0 1 (by decide +kernel) rfl rfl (by decide) (by decide +kernel) rfl rfl dX0_remember_54 ?_
      refine V.iconst (v := nI (1)) E dX0_remember_57 (by decide) ?_
      refine V.iaddN E  dX0_remember_58 ?_
      refine V.bipush (v := nI (6)) E dX0_remember_59 (by decide) ?_
      refine V.callS E (c_J9_floorMod_7cf53 G (o + 1) (by omega)) (bl [hiW G h ha o n, scW G (ha 0) x, scW G (ha 1) (rg 1), scW G (ha 2) (rg 2), scW G (ha 3) (rg 3), scW G (ha 4) (rg 4), scW G (ha 5) (rg 5), scW G b x]) [.ref (h 0)] gX0_remember_J9_floorMod_7cf53 rfl hd_J9_floorMod_7cf53 ⟨⟨Nat.le_of_ble_eq_true rfl, Nat.le_of_ble_eq_true rfl⟩, Nat.le_of_ble_eq_true rfl, Nat.le_of_ble_eq_true rfl⟩ rfl (Nat.le_of_ble_eq_true rfl) rfl dX0_remember_61 (List.Perm.refl _) (kc' := 0) (ks' := 0) rfl rfl (rwI (ws' := (bl [hiW G h ha o n, scW G (ha 0) x, scW G (ha 1) (rg 1), scW G (ha 2) (rg 2), scW G (ha 3) (rg 3), scW G (ha 4) (rg 4), scW G (ha 5) (rg 5), scW G b x])) (List.Perm.refl _) ?_)
      refine V.putf (C := RX0) (T := TX0) (N := 3) (ref := "GlassSpill$History") (ws' := (bl [hiW G h ha ((o + 1) % 6) n, scW G (ha 0) x, scW G (ha 1) (rg 1), scW G (ha 2) (rg 2), scW G (ha 3) (rg 3), scW G (ha 4) (rg 4), scW G (ha 5) (rg 5), scW G b x])) E 0 0 1 (by decide +kernel) tyX0_ok nmX0 rfl rfl (by decide) (by decide +kernel) rfl rfl rfl rfl (Nat.le_of_ble_eq_true rfl) dX0_remember_64 rfl ?_
      have e1 : onN o n = (o + 1) % 6 := by unfold onN; rw [if_pos (by omega)]
      have e2 : hlN n = n := by unfold hlN; rw [if_pos (by omega)]; omega
      exact hend _ _ _ dX0_remember_67 ⟨by rw [e1, e2, hc]; rfl, rfl⟩
    · refine V.aload_n E dX0_remember_39 rfl rfl ?_
      refine V.dup E dX0_remember_40 rfl ?_
      refine V.getf (C := RX0) (T := TX0) (N := 3) (ref := "GlassSpill$History") E 0 0 2 (by decide +kernel) rfl rfl (by decide) (by decide +kernel) rfl rfl dX0_remember_41 ?_
      refine V.iconst (v := nI (1)) E dX0_remember_44 (by decide) ?_
      refine V.iaddN E  dX0_remember_45 ?_
      refine V.putf (C := RX0) (T := TX0) (N := 3) (ref := "GlassSpill$History") (ws' := (bl [hiW G h ha o (n + 1), scW G (ha 0) x, scW G (ha 1) (rg 1), scW G (ha 2) (rg 2), scW G (ha 3) (rg 3), scW G (ha 4) (rg 4), scW G (ha 5) (rg 5), scW G b x])) E 0 0 2 (by decide +kernel) tyX0_ok nmX0 rfl rfl (by decide) (by decide +kernel) rfl rfl rfl rfl (Nat.le_of_ble_eq_true rfl) dX0_remember_46 rfl ?_
      refine V.goto (tgt := 67) E dX0_remember_49 (by decide) ?_
      have e1 : onN o n = o := by unfold onN; rw [if_neg (by omega)]
      have e2 : hlN n = n + 1 := by unfold hlN; rw [if_neg (by omega)]
      exact hend _ _ _ dX0_remember_67 ⟨by rw [e1, e2, hc]; rfl, rfl⟩
  · refine V.topN (b := 1) (hc) ?_
    refine V.aaldN (v := .ref ((ha 1) 0)) E 1 rfl (by omega) (by decide) (rfl) dX0_remember_18 ?_
    refine V.astore_n (lv' := [some (.ref (h 0)), some (.ref (b 0)), some (.ref ((ha 1) 0))]) E dX0_remember_19 rfl (Nat.le_of_ble_eq_true rfl) rfl rfl ?_
    refine V.aload_n E dX0_remember_20 rfl rfl ?_
    refine V.ifnonnull (tgt := 25) E dX0_remember_21 (by decide) ?_
    refine V.aload_n E dX0_remember_25 rfl rfl ?_
    refine V.aload_n E dX0_remember_26 rfl rfl ?_
    refine V.callV (C := RX2) E (c_X2_copyFrom G (ha 1) b (rg 1) x (hx)) (bl [hiW G h ha o n, scW G (ha 0) (rg 0), scW G (ha 2) (rg 2), scW G (ha 3) (rg 3), scW G (ha 4) (rg 4), scW G (ha 5) (rg 5)]) [] 7 2 rfl rfl rfl gX0_remember_X2_copyFrom rfl ⟨rfl, hd_X2_copyFrom⟩ ⟨⟨Nat.le_of_ble_eq_true rfl, Nat.le_of_ble_eq_true rfl⟩, Nat.le_of_ble_eq_true rfl, Nat.le_of_ble_eq_true rfl⟩ rfl (Nat.le_of_ble_eq_true rfl) rfl dX0_remember_27 (pBs (n := 8) [hiW G h ha o n, scW G (ha 0) (rg 0), scW G (ha 1) (rg 1), scW G (ha 2) (rg 2), scW G (ha 3) (rg 3), scW G (ha 4) (rg 4), scW G (ha 5) (rg 5), scW G b x] [2, 7] [0, 1, 3, 4, 5, 6] rfl (by decide)) (kc' := 0) (ks' := 0) rfl rfl (rwV (ws' := (bl [hiW G h ha o n, scW G (ha 0) (rg 0), scW G (ha 1) x, scW G (ha 2) (rg 2), scW G (ha 3) (rg 3), scW G (ha 4) (rg 4), scW G (ha 5) (rg 5), scW G b x])) (pBs (n := 8) [hiW G h ha o n, scW G (ha 0) (rg 0), scW G (ha 1) x, scW G (ha 2) (rg 2), scW G (ha 3) (rg 3), scW G (ha 4) (rg 4), scW G (ha 5) (rg 5), scW G b x] [2, 7] [0, 1, 3, 4, 5, 6] rfl (by decide)).symm ?_)
    refine V.aload_n E dX0_remember_30 rfl rfl ?_
    refine V.getf (C := RX0) (T := TX0) (N := 3) (ref := "GlassSpill$History") E 0 0 2 (by decide +kernel) rfl rfl (by decide) (by decide +kernel) rfl rfl dX0_remember_31 ?_
    refine V.bipush (v := nI (6)) E dX0_remember_34 (by decide) ?_
    refine V.icmp_geN (tgt := 52) E (by omega) (by decide) dX0_remember_36 (by decide) (fun q_36 => ?_) (fun q_36 => ?_)
    · refine V.aload_n E dX0_remember_52 rfl rfl ?_
      refine V.aload_n E dX0_remember_53 rfl rfl ?_
      refine V.getf (C := RX0) (T := TX0) (N := 3) (ref := "GlassSpill$History") E 0 0 1 (by decide +kernel) rfl rfl (by decide) (by decide +kernel) rfl rfl dX0_remember_54 ?_
      refine V.iconst (v := nI (1)) E dX0_remember_57 (by decide) ?_
      refine V.iaddN E  dX0_remember_58 ?_
      refine V.bipush (v := nI (6)) E dX0_remember_59 (by decide) ?_
      refine V.callS E (c_J9_floorMod_7cf53 G (o + 1) (by omega)) (bl [hiW G h ha o n, scW G (ha 0) (rg 0), scW G (ha 1) x, scW G (ha 2) (rg 2), scW G (ha 3) (rg 3), scW G (ha 4) (rg 4), scW G (ha 5) (rg 5), scW G b x]) [.ref (h 0)] gX0_remember_J9_floorMod_7cf53 rfl hd_J9_floorMod_7cf53 ⟨⟨Nat.le_of_ble_eq_true rfl, Nat.le_of_ble_eq_true rfl⟩, Nat.le_of_ble_eq_true rfl, Nat.le_of_ble_eq_true rfl⟩ rfl (Nat.le_of_ble_eq_true rfl) rfl dX0_remember_61 (List.Perm.refl _) (kc' := 0) (ks' := 0) rfl rfl (rwI (ws' := (bl [hiW G h ha o n, scW G (ha 0) (rg 0), scW G (ha 1) x, scW G (ha 2) (rg 2), scW G (ha 3) (rg 3), scW G (ha 4) (rg 4), scW G (ha 5) (rg 5), scW G b x])) (List.Perm.refl _) ?_)
      refine V.putf (C := RX0) (T := TX0) (N := 3) (ref := "GlassSpill$History") (ws' := (bl [hiW G h ha ((o + 1) % 6) n, scW G (ha 0) (rg 0), scW G (ha 1) x, scW G (ha 2) (rg 2), scW G (ha 3) (rg 3), scW G (ha 4) (rg 4), scW G (ha 5) (rg 5), scW G b x])) E 0 0 1 (by decide +kernel) tyX0_ok nmX0 rfl rfl (by decide) (by decide +kernel) rfl rfl rfl rfl (Nat.le_of_ble_eq_true rfl) dX0_remember_64 rfl ?_
      have e1 : onN o n = (o + 1) % 6 := by unfold onN; rw [if_pos (by omega)]
      have e2 : hlN n = n := by unfold hlN; rw [if_pos (by omega)]; omega
      exact hend _ _ _ dX0_remember_67 ⟨by rw [e1, e2, hc]; rfl, rfl⟩
    · refine V.aload_n E dX0_remember_39 rfl rfl ?_
      refine V.dup E dX0_remember_40 rfl ?_
      refine V.getf (C := RX0) (T := TX0) (N := 3) (ref := "GlassSpill$History") E 0 0 2 (by decide +kernel) rfl rfl (by decide) (by decide +kernel) rfl rfl dX0_remember_41 ?_
      refine V.iconst (v := nI (1)) E dX0_remember_44 (by decide) ?_
      refine V.iaddN E  dX0_remember_45 ?_
      refine V.putf (C := RX0) (T := TX0) (N := 3) (ref := "GlassSpill$History") (ws' := (bl [hiW G h ha o (n + 1), scW G (ha 0) (rg 0), scW G (ha 1) x, scW G (ha 2) (rg 2), scW G (ha 3) (rg 3), scW G (ha 4) (rg 4), scW G (ha 5) (rg 5), scW G b x])) E 0 0 2 (by decide +kernel) tyX0_ok nmX0 rfl rfl (by decide) (by decide +kernel) rfl rfl rfl rfl (Nat.le_of_ble_eq_true rfl) dX0_remember_46 rfl ?_
      refine V.goto (tgt := 67) E dX0_remember_49 (by decide) ?_
      have e1 : onN o n = o := by unfold onN; rw [if_neg (by omega)]
      have e2 : hlN n = n + 1 := by unfold hlN; rw [if_neg (by omega)]
      exact hend _ _ _ dX0_remember_67 ⟨by rw [e1, e2, hc]; rfl, rfl⟩
  · refine V.topN (b := 2) (hc) ?_
    refine V.aaldN (v := .ref ((ha 2) 0)) E 1 rfl (by omega) (by decide) (rfl) dX0_remember_18 ?_
    refine V.astore_n (lv' := [some (.ref (h 0)), some (.ref (b 0)), some (.ref ((ha 2) 0))]) E dX0_remember_19 rfl (Nat.le_of_ble_eq_true rfl) rfl rfl ?_
    refine V.aload_n E dX0_remember_20 rfl rfl ?_
    refine V.ifnonnull (tgt := 25) E dX0_remember_21 (by decide) ?_
    refine V.aload_n E dX0_remember_25 rfl rfl ?_
    refine V.aload_n E dX0_remember_26 rfl rfl ?_
    refine V.callV (C := RX2) E (c_X2_copyFrom G (ha 2) b (rg 2) x (hx)) (bl [hiW G h ha o n, scW G (ha 0) (rg 0), scW G (ha 1) (rg 1), scW G (ha 3) (rg 3), scW G (ha 4) (rg 4), scW G (ha 5) (rg 5)]) [] 12 2 rfl rfl rfl gX0_remember_X2_copyFrom rfl ⟨rfl, hd_X2_copyFrom⟩ ⟨⟨Nat.le_of_ble_eq_true rfl, Nat.le_of_ble_eq_true rfl⟩, Nat.le_of_ble_eq_true rfl, Nat.le_of_ble_eq_true rfl⟩ rfl (Nat.le_of_ble_eq_true rfl) rfl dX0_remember_27 (pBs (n := 8) [hiW G h ha o n, scW G (ha 0) (rg 0), scW G (ha 1) (rg 1), scW G (ha 2) (rg 2), scW G (ha 3) (rg 3), scW G (ha 4) (rg 4), scW G (ha 5) (rg 5), scW G b x] [3, 7] [0, 1, 2, 4, 5, 6] rfl (by decide)) (kc' := 0) (ks' := 0) rfl rfl (rwV (ws' := (bl [hiW G h ha o n, scW G (ha 0) (rg 0), scW G (ha 1) (rg 1), scW G (ha 2) x, scW G (ha 3) (rg 3), scW G (ha 4) (rg 4), scW G (ha 5) (rg 5), scW G b x])) (pBs (n := 8) [hiW G h ha o n, scW G (ha 0) (rg 0), scW G (ha 1) (rg 1), scW G (ha 2) x, scW G (ha 3) (rg 3), scW G (ha 4) (rg 4), scW G (ha 5) (rg 5), scW G b x] [3, 7] [0, 1, 2, 4, 5, 6] rfl (by decide)).symm ?_)
    refine V.aload_n E dX0_remember_30 rfl rfl ?_
    refine V.getf (C := RX0) (T := TX0) (N := 3) (ref := "GlassSpill$History") E 0 0 2 (by decide +kernel) rfl rfl (by decide) (by decide +kernel) rfl rfl dX0_remember_31 ?_
    refine V.bipush (v := nI (6)) E dX0_remember_34 (by decide) ?_
    refine V.icmp_geN (tgt := 52) E (by omega) (by decide) dX0_remember_36 (by decide) (fun q_36 => ?_) (fun q_36 => ?_)
    · refine V.aload_n E dX0_remember_52 rfl rfl ?_
      refine V.aload_n E dX0_remember_53 rfl rfl ?_
      refine V.getf (C := RX0) (T := TX0) (N := 3) (ref := "GlassSpill$History") E 0 0 1 (by decide +kernel) rfl rfl (by decide) (by decide +kernel) rfl rfl dX0_remember_54 ?_
      refine V.iconst (v := nI (1)) E dX0_remember_57 (by decide) ?_
      refine V.iaddN E  dX0_remember_58 ?_
      refine V.bipush (v := nI (6)) E dX0_remember_59 (by decide) ?_
      refine V.callS E (c_J9_floorMod_7cf53 G (o + 1) (by omega)) (bl [hiW G h ha o n, scW G (ha 0) (rg 0), scW G (ha 1) (rg 1), scW G (ha 2) x, scW G (ha 3) (rg 3), scW G (ha 4) (rg 4), scW G (ha 5) (rg 5), scW G b x]) [.ref (h 0)] gX0_remember_J9_floorMod_7cf53 rfl hd_J9_floorMod_7cf53 ⟨⟨Nat.le_of_ble_eq_true rfl, Nat.le_of_ble_eq_true rfl⟩, Nat.le_of_ble_eq_true rfl, Nat.le_of_ble_eq_true rfl⟩ rfl (Nat.le_of_ble_eq_true rfl) rfl dX0_remember_61 (List.Perm.refl _) (kc' := 0) (ks' := 0) rfl rfl (rwI (ws' := (bl [hiW G h ha o n, scW G (ha 0) (rg 0), scW G (ha 1) (rg 1), scW G (ha 2) x, scW G (ha 3) (rg 3), scW G (ha 4) (rg 4), scW G (ha 5) (rg 5), scW G b x])) (List.Perm.refl _) ?_)
      refine V.putf (C := RX0) (T := TX0) (N := 3) (ref := "GlassSpill$History") (ws' := (bl [hiW G h ha ((o + 1) % 6) n, scW G (ha 0) (rg 0), scW G (ha 1) (rg 1), scW G (ha 2) x, scW G (ha 3) (rg 3), scW G (ha 4) (rg 4), scW G (ha 5) (rg 5), scW G b x])) E 0 0 1 (by decide +kernel) tyX0_ok nmX0 rfl rfl (by decide) (by decide +kernel) rfl rfl rfl rfl (Nat.le_of_ble_eq_true rfl) dX0_remember_64 rfl ?_
      have e1 : onN o n = (o + 1) % 6 := by unfold onN; rw [if_pos (by omega)]
      have e2 : hlN n = n := by unfold hlN; rw [if_pos (by omega)]; omega
      exact hend _ _ _ dX0_remember_67 ⟨by rw [e1, e2, hc]; rfl, rfl⟩
    · refine V.aload_n E dX0_remember_39 rfl rfl ?_
      refine V.dup E dX0_remember_40 rfl ?_
      refine V.getf (C := RX0) (T := TX0) (N := 3) (ref := "GlassSpill$History") E 0 0 2 (by decide +kernel) rfl rfl (by decide) (by decide +kernel) rfl rfl dX0_remember_41 ?_
      refine V.iconst (v := nI (1)) E dX0_remember_44 (by decide) ?_
      refine V.iaddN E  dX0_remember_45 ?_
      refine V.putf (C := RX0) (T := TX0) (N := 3) (ref := "GlassSpill$History") (ws' := (bl [hiW G h ha o (n + 1), scW G (ha 0) (rg 0), scW G (ha 1) (rg 1), scW G (ha 2) x, scW G (ha 3) (rg 3), scW G (ha 4) (rg 4), scW G (ha 5) (rg 5), scW G b x])) E 0 0 2 (by decide +kernel) tyX0_ok nmX0 rfl rfl (by decide) (by decide +kernel) rfl rfl rfl rfl (Nat.le_of_ble_eq_true rfl) dX0_remember_46 rfl ?_
      refine V.goto (tgt := 67) E dX0_remember_49 (by decide) ?_
      have e1 : onN o n = o := by unfold onN; rw [if_neg (by omega)]
      have e2 : hlN n = n + 1 := by unfold hlN; rw [if_neg (by omega)]
      exact hend _ _ _ dX0_remember_67 ⟨by rw [e1, e2, hc]; rfl, rfl⟩
  · refine V.topN (b := 3) (hc) ?_
    refine V.aaldN (v := .ref ((ha 3) 0)) E 1 rfl (by omega) (by decide) (rfl) dX0_remember_18 ?_
    refine V.astore_n (lv' := [some (.ref (h 0)), some (.ref (b 0)), some (.ref ((ha 3) 0))]) E dX0_remember_19 rfl (Nat.le_of_ble_eq_true rfl) rfl rfl ?_
    refine V.aload_n E dX0_remember_20 rfl rfl ?_
    refine V.ifnonnull (tgt := 25) E dX0_remember_21 (by decide) ?_
    refine V.aload_n E dX0_remember_25 rfl rfl ?_
    refine V.aload_n E dX0_remember_26 rfl rfl ?_
    refine V.callV (C := RX2) E (c_X2_copyFrom G (ha 3) b (rg 3) x (hx)) (bl [hiW G h ha o n, scW G (ha 0) (rg 0), scW G (ha 1) (rg 1), scW G (ha 2) (rg 2), scW G (ha 4) (rg 4), scW G (ha 5) (rg 5)]) [] 17 2 rfl rfl rfl gX0_remember_X2_copyFrom rfl ⟨rfl, hd_X2_copyFrom⟩ ⟨⟨Nat.le_of_ble_eq_true rfl, Nat.le_of_ble_eq_true rfl⟩, Nat.le_of_ble_eq_true rfl, Nat.le_of_ble_eq_true rfl⟩ rfl (Nat.le_of_ble_eq_true rfl) rfl dX0_remember_27 (pBs (n := 8) [hiW G h ha o n, scW G (ha 0) (rg 0), scW G (ha 1) (rg 1), scW G (ha 2) (rg 2), scW G (ha 3) (rg 3), scW G (ha 4) (rg 4), scW G (ha 5) (rg 5), scW G b x] [4, 7] [0, 1, 2, 3, 5, 6] rfl (by decide)) (kc' := 0) (ks' := 0) rfl rfl (rwV (ws' := (bl [hiW G h ha o n, scW G (ha 0) (rg 0), scW G (ha 1) (rg 1), scW G (ha 2) (rg 2), scW G (ha 3) x, scW G (ha 4) (rg 4), scW G (ha 5) (rg 5), scW G b x])) (pBs (n := 8) [hiW G h ha o n, scW G (ha 0) (rg 0), scW G (ha 1) (rg 1), scW G (ha 2) (rg 2), scW G (ha 3) x, scW G (ha 4) (rg 4), scW G (ha 5) (rg 5), scW G b x] [4, 7] [0, 1, 2, 3, 5, 6] rfl (by decide)).symm ?_)
    refine V.aload_n E dX0_remember_30 rfl rfl ?_
    refine V.getf (C := RX0) (T := TX0) (N := 3) (ref := "GlassSpill$History") E 0 0 2 (by decide +kernel) rfl rfl (by decide) (by decide +kernel) rfl rfl dX0_remember_31 ?_
    refine V.bipush (v := nI (6)) E dX0_remember_34 (by decide) ?_
    refine V.icmp_geN (tgt := 52) E (by omega) (by decide) dX0_remember_36 (by decide) (fun q_36 => ?_) (fun q_36 => ?_)
    · refine V.aload_n E dX0_remember_52 rfl rfl ?_
      refine V.aload_n E dX0_remember_53 rfl rfl ?_
      refine V.getf (C := RX0) (T := TX0) (N := 3) (ref := "GlassSpill$History") E 0 0 1 (by decide +kernel) rfl rfl (by decide) (by decide +kernel) rfl rfl dX0_remember_54 ?_
      refine V.iconst (v := nI (1)) E dX0_remember_57 (by decide) ?_
      refine V.iaddN E  dX0_remember_58 ?_
      refine V.bipush (v := nI (6)) E dX0_remember_59 (by decide) ?_
      refine V.callS E (c_J9_floorMod_7cf53 G (o + 1) (by omega)) (bl [hiW G h ha o n, scW G (ha 0) (rg 0), scW G (ha 1) (rg 1), scW G (ha 2) (rg 2), scW G (ha 3) x, scW G (ha 4) (rg 4), scW G (ha 5) (rg 5), scW G b x]) [.ref (h 0)] gX0_remember_J9_floorMod_7cf53 rfl hd_J9_floorMod_7cf53 ⟨⟨Nat.le_of_ble_eq_true rfl, Nat.le_of_ble_eq_true rfl⟩, Nat.le_of_ble_eq_true rfl, Nat.le_of_ble_eq_true rfl⟩ rfl (Nat.le_of_ble_eq_true rfl) rfl dX0_remember_61 (List.Perm.refl _) (kc' := 0) (ks' := 0) rfl rfl (rwI (ws' := (bl [hiW G h ha o n, scW G (ha 0) (rg 0), scW G (ha 1) (rg 1), scW G (ha 2) (rg 2), scW G (ha 3) x, scW G (ha 4) (rg 4), scW G (ha 5) (rg 5), scW G b x])) (List.Perm.refl _) ?_)
      refine V.putf (C := RX0) (T := TX0) (N := 3) (ref := "GlassSpill$History") (ws' := (bl [hiW G h ha ((o + 1) % 6) n, scW G (ha 0) (rg 0), scW G (ha 1) (rg 1), scW G (ha 2) (rg 2), scW G (ha 3) x, scW G (ha 4) (rg 4), scW G (ha 5) (rg 5), scW G b x])) E 0 0 1 (by decide +kernel) tyX0_ok nmX0 rfl rfl (by decide) (by decide +kernel) rfl rfl rfl rfl (Nat.le_of_ble_eq_true rfl) dX0_remember_64 rfl ?_
      have e1 : onN o n = (o + 1) % 6 := by unfold onN; rw [if_pos (by omega)]
      have e2 : hlN n = n := by unfold hlN; rw [if_pos (by omega)]; omega
      exact hend _ _ _ dX0_remember_67 ⟨by rw [e1, e2, hc]; rfl, rfl⟩
    · refine V.aload_n E dX0_remember_39 rfl rfl ?_
      refine V.dup E dX0_remember_40 rfl ?_
      refine V.getf (C := RX0) (T := TX0) (N := 3) (ref := "GlassSpill$History") E 0 0 2 (by decide +kernel) rfl rfl (by decide) (by decide +kernel) rfl rfl dX0_remember_41 ?_
      refine V.iconst (v := nI (1)) E dX0_remember_44 (by decide) ?_
      refine V.iaddN E  dX0_remember_45 ?_
      refine V.putf (C := RX0) (T := TX0) (N := 3) (ref := "GlassSpill$History") (ws' := (bl [hiW G h ha o (n + 1), scW G (ha 0) (rg 0), scW G (ha 1) (rg 1), scW G (ha 2) (rg 2), scW G (ha 3) x, scW G (ha 4) (rg 4), scW G (ha 5) (rg 5), scW G b x])) E 0 0 2 (by decide +kernel) tyX0_ok nmX0 rfl rfl (by decide) (by decide +kernel) rfl rfl rfl rfl (Nat.le_of_ble_eq_true rfl) dX0_remember_46 rfl ?_
      refine V.goto (tgt := 67) E dX0_remember_49 (by decide) ?_
      have e1 : onN o n = o := by unfold onN; rw [if_neg (by omega)]
      have e2 : hlN n = n + 1 := by unfold hlN; rw [if_neg (by omega)]
      exact hend _ _ _ dX0_remember_67 ⟨by rw [e1, e2, hc]; rfl, rfl⟩
  · refine V.topN (b := 4) (hc) ?_
    refine V.aaldN (v := .ref ((ha 4) 0)) E 1 rfl (by omega) (by decide) (rfl) dX0_remember_18 ?_
    refine V.astore_n (lv' := [some (.ref (h 0)), some (.ref (b 0)), some (.ref ((ha 4) 0))]) E dX0_remember_19 rfl (Nat.le_of_ble_eq_true rfl) rfl rfl ?_
    refine V.aload_n E dX0_remember_20 rfl rfl ?_
    refine V.ifnonnull (tgt := 25) E dX0_remember_21 (by decide) ?_
    refine V.aload_n E dX0_remember_25 rfl rfl ?_
    refine V.aload_n E dX0_remember_26 rfl rfl ?_
    refine V.callV (C := RX2) E (c_X2_copyFrom G (ha 4) b (rg 4) x (hx)) (bl [hiW G h ha o n, scW G (ha 0) (rg 0), scW G (ha 1) (rg 1), scW G (ha 2) (rg 2), scW G (ha 3) (rg 3), scW G (ha 5) (rg 5)]) [] 22 2 rfl rfl rfl gX0_remember_X2_copyFrom rfl ⟨rfl, hd_X2_copyFrom⟩ ⟨⟨Nat.le_of_ble_eq_true rfl, Nat.le_of_ble_eq_true rfl⟩, Nat.le_of_ble_eq_true rfl, Nat.le_of_ble_eq_true rfl⟩ rfl (Nat.le_of_ble_eq_true rfl) rfl dX0_remember_27 (pBs (n := 8) [hiW G h ha o n, scW G (ha 0) (rg 0), scW G (ha 1) (rg 1), scW G (ha 2) (rg 2), scW G (ha 3) (rg 3), scW G (ha 4) (rg 4), scW G (ha 5) (rg 5), scW G b x] [5, 7] [0, 1, 2, 3, 4, 6] rfl (by decide)) (kc' := 0) (ks' := 0) rfl rfl (rwV (ws' := (bl [hiW G h ha o n, scW G (ha 0) (rg 0), scW G (ha 1) (rg 1), scW G (ha 2) (rg 2), scW G (ha 3) (rg 3), scW G (ha 4) x, scW G (ha 5) (rg 5), scW G b x])) (pBs (n := 8) [hiW G h ha o n, scW G (ha 0) (rg 0), scW G (ha 1) (rg 1), scW G (ha 2) (rg 2), scW G (ha 3) (rg 3), scW G (ha 4) x, scW G (ha 5) (rg 5), scW G b x] [5, 7] [0, 1, 2, 3, 4, 6] rfl (by decide)).symm ?_)
    refine V.aload_n E dX0_remember_30 rfl rfl ?_
    refine V.getf (C := RX0) (T := TX0) (N := 3) (ref := "GlassSpill$History") E 0 0 2 (by decide +kernel) rfl rfl (by decide) (by decide +kernel) rfl rfl dX0_remember_31 ?_
    refine V.bipush (v := nI (6)) E dX0_remember_34 (by decide) ?_
    refine V.icmp_geN (tgt := 52) E (by omega) (by decide) dX0_remember_36 (by decide) (fun q_36 => ?_) (fun q_36 => ?_)
    · refine V.aload_n E dX0_remember_52 rfl rfl ?_
      refine V.aload_n E dX0_remember_53 rfl rfl ?_
      refine V.getf (C := RX0) (T := TX0) (N := 3) (ref := "GlassSpill$History") E 0 0 1 (by decide +kernel) rfl rfl (by decide) (by decide +kernel) rfl rfl dX0_remember_54 ?_
      refine V.iconst (v := nI (1)) E dX0_remember_57 (by decide) ?_
      refine V.iaddN E  dX0_remember_58 ?_
      refine V.bipush (v := nI (6)) E dX0_remember_59 (by decide) ?_
      refine V.callS E (c_J9_floorMod_7cf53 G (o + 1) (by omega)) (bl [hiW G h ha o n, scW G (ha 0) (rg 0), scW G (ha 1) (rg 1), scW G (ha 2) (rg 2), scW G (ha 3) (rg 3), scW G (ha 4) x, scW G (ha 5) (rg 5), scW G b x]) [.ref (h 0)] gX0_remember_J9_floorMod_7cf53 rfl hd_J9_floorMod_7cf53 ⟨⟨Nat.le_of_ble_eq_true rfl, Nat.le_of_ble_eq_true rfl⟩, Nat.le_of_ble_eq_true rfl, Nat.le_of_ble_eq_true rfl⟩ rfl (Nat.le_of_ble_eq_true rfl) rfl dX0_remember_61 (List.Perm.refl _) (kc' := 0) (ks' := 0) rfl rfl (rwI (ws' := (bl [hiW G h ha o n, scW G (ha 0) (rg 0), scW G (ha 1) (rg 1), scW G (ha 2) (rg 2), scW G (ha 3) (rg 3), scW G (ha 4) x, scW G (ha 5) (rg 5), scW G b x])) (List.Perm.refl _) ?_)
      refine V.putf (C := RX0) (T := TX0) (N := 3) (ref := "GlassSpill$History") (ws' := (bl [hiW G h ha ((o + 1) % 6) n, scW G (ha 0) (rg 0), scW G (ha 1) (rg 1), scW G (ha 2) (rg 2), scW G (ha 3) (rg 3), scW G (ha 4) x, scW G (ha 5) (rg 5), scW G b x])) E 0 0 1 (by decide +kernel) tyX0_ok nmX0 rfl rfl (by decide) (by decide +kernel) rfl rfl rfl rfl (Nat.le_of_ble_eq_true rfl) dX0_remember_64 rfl ?_
      have e1 : onN o n = (o + 1) % 6 := by unfold onN; rw [if_pos (by omega)]
      have e2 : hlN n = n := by unfold hlN; rw [if_pos (by omega)]; omega
      exact hend _ _ _ dX0_remember_67 ⟨by rw [e1, e2, hc]; rfl, rfl⟩
    · refine V.aload_n E dX0_remember_39 rfl rfl ?_
      refine V.dup E dX0_remember_40 rfl ?_
      refine V.getf (C := RX0) (T := TX0) (N := 3) (ref := "GlassSpill$History") E 0 0 2 (by decide +kernel) rfl rfl (by decide) (by decide +kernel) rfl rfl dX0_remember_41 ?_
      refine V.iconst (v := nI (1)) E dX0_remember_44 (by decide) ?_
      refine V.iaddN E  dX0_remember_45 ?_
      refine V.putf (C := RX0) (T := TX0) (N := 3) (ref := "GlassSpill$History") (ws' := (bl [hiW G h ha o (n + 1), scW G (ha 0) (rg 0), scW G (ha 1) (rg 1), scW G (ha 2) (rg 2), scW G (ha 3) (rg 3), scW G (ha 4) x, scW G (ha 5) (rg 5), scW G b x])) E 0 0 2 (by decide +kernel) tyX0_ok nmX0 rfl rfl (by decide) (by decide +kernel) rfl rfl rfl rfl (Nat.le_of_ble_eq_true rfl) dX0_remember_46 rfl ?_
      refine V.goto (tgt := 67) E dX0_remember_49 (by decide) ?_
      have e1 : onN o n = o := by unfold onN; rw [if_neg (by omega)]
      have e2 : hlN n = n + 1 := by unfold hlN; rw [if_neg (by omega)]
      exact hend _ _ _ dX0_remember_67 ⟨by rw [e1, e2, hc]; rfl, rfl⟩
  · refine V.topN (b := 5) (hc) ?_
    refine V.aaldN (v := .ref ((ha 5) 0)) E 1 rfl (by omega) (by decide) (rfl) dX0_remember_18 ?_
    refine V.astore_n (lv' := [some (.ref (h 0)), some (.ref (b 0)), some (.ref ((ha 5) 0))]) E dX0_remember_19 rfl (Nat.le_of_ble_eq_true rfl) rfl rfl ?_
    refine V.aload_n E dX0_remember_20 rfl rfl ?_
    refine V.ifnonnull (tgt := 25) E dX0_remember_21 (by decide) ?_
    refine V.aload_n E dX0_remember_25 rfl rfl ?_
    refine V.aload_n E dX0_remember_26 rfl rfl ?_
    refine V.callV (C := RX2) E (c_X2_copyFrom G (ha 5) b (rg 5) x (hx)) (bl [hiW G h ha o n, scW G (ha 0) (rg 0), scW G (ha 1) (rg 1), scW G (ha 2) (rg 2), scW G (ha 3) (rg 3), scW G (ha 4) (rg 4)]) [] 27 2 rfl rfl rfl gX0_remember_X2_copyFrom rfl ⟨rfl, hd_X2_copyFrom⟩ ⟨⟨Nat.le_of_ble_eq_true rfl, Nat.le_of_ble_eq_true rfl⟩, Nat.le_of_ble_eq_true rfl, Nat.le_of_ble_eq_true rfl⟩ rfl (Nat.le_of_ble_eq_true rfl) rfl dX0_remember_27 (pBs (n := 8) [hiW G h ha o n, scW G (ha 0) (rg 0), scW G (ha 1) (rg 1), scW G (ha 2) (rg 2), scW G (ha 3) (rg 3), scW G (ha 4) (rg 4), scW G (ha 5) (rg 5), scW G b x] [6, 7] [0, 1, 2, 3, 4, 5] rfl (by decide)) (kc' := 0) (ks' := 0) rfl rfl (rwV (ws' := (bl [hiW G h ha o n, scW G (ha 0) (rg 0), scW G (ha 1) (rg 1), scW G (ha 2) (rg 2), scW G (ha 3) (rg 3), scW G (ha 4) (rg 4), scW G (ha 5) x, scW G b x])) (pBs (n := 8) [hiW G h ha o n, scW G (ha 0) (rg 0), scW G (ha 1) (rg 1), scW G (ha 2) (rg 2), scW G (ha 3) (rg 3), scW G (ha 4) (rg 4), scW G (ha 5) x, scW G b x] [6, 7] [0, 1, 2, 3, 4, 5] rfl (by decide)).symm ?_)
    refine V.aload_n E dX0_remember_30 rfl rfl ?_
    refine V.getf (C := RX0) (T := TX0) (N := 3) (ref := "GlassSpill$History") E 0 0 2 (by decide +kernel) rfl rfl (by decide) (by decide +kernel) rfl rfl dX0_remember_31 ?_
    refine V.bipush (v := nI (6)) E dX0_remember_34 (by decide) ?_
    refine V.icmp_geN (tgt := 52) E (by omega) (by decide) dX0_remember_36 (by decide) (fun q_36 => ?_) (fun q_36 => ?_)
    · refine V.aload_n E dX0_remember_52 rfl rfl ?_
      refine V.aload_n E dX0_remember_53 rfl rfl ?_
      refine V.getf (C := RX0) (T := TX0) (N := 3) (ref := "GlassSpill$History") E 0 0 1 (by decide +kernel) rfl rfl (by decide) (by decide +kernel) rfl rfl dX0_remember_54 ?_
      refine V.iconst (v := nI (1)) E dX0_remember_57 (by decide) ?_
      refine V.iaddN E  dX0_remember_58 ?_
      refine V.bipush (v := nI (6)) E dX0_remember_59 (by decide) ?_
      refine V.callS E (c_J9_floorMod_7cf53 G (o + 1) (by omega)) (bl [hiW G h ha o n, scW G (ha 0) (rg 0), scW G (ha 1) (rg 1), scW G (ha 2) (rg 2), scW G (ha 3) (rg 3), scW G (ha 4) (rg 4), scW G (ha 5) x, scW G b x]) [.ref (h 0)] gX0_remember_J9_floorMod_7cf53 rfl hd_J9_floorMod_7cf53 ⟨⟨Nat.le_of_ble_eq_true rfl, Nat.le_of_ble_eq_true rfl⟩, Nat.le_of_ble_eq_true rfl, Nat.le_of_ble_eq_true rfl⟩ rfl (Nat.le_of_ble_eq_true rfl) rfl dX0_remember_61 (List.Perm.refl _) (kc' := 0) (ks' := 0) rfl rfl (rwI (ws' := (bl [hiW G h ha o n, scW G (ha 0) (rg 0), scW G (ha 1) (rg 1), scW G (ha 2) (rg 2), scW G (ha 3) (rg 3), scW G (ha 4) (rg 4), scW G (ha 5) x, scW G b x])) (List.Perm.refl _) ?_)
      refine V.putf (C := RX0) (T := TX0) (N := 3) (ref := "GlassSpill$History") (ws' := (bl [hiW G h ha ((o + 1) % 6) n, scW G (ha 0) (rg 0), scW G (ha 1) (rg 1), scW G (ha 2) (rg 2), scW G (ha 3) (rg 3), scW G (ha 4) (rg 4), scW G (ha 5) x, scW G b x])) E 0 0 1 (by decide +kernel) tyX0_ok nmX0 rfl rfl (by decide) (by decide +kernel) rfl rfl rfl rfl (Nat.le_of_ble_eq_true rfl) dX0_remember_64 rfl ?_
      have e1 : onN o n = (o + 1) % 6 := by unfold onN; rw [if_pos (by omega)]
      have e2 : hlN n = n := by unfold hlN; rw [if_pos (by omega)]; omega
      exact hend _ _ _ dX0_remember_67 ⟨by rw [e1, e2, hc]; rfl, rfl⟩
    · refine V.aload_n E dX0_remember_39 rfl rfl ?_
      refine V.dup E dX0_remember_40 rfl ?_
      refine V.getf (C := RX0) (T := TX0) (N := 3) (ref := "GlassSpill$History") E 0 0 2 (by decide +kernel) rfl rfl (by decide) (by decide +kernel) rfl rfl dX0_remember_41 ?_
      refine V.iconst (v := nI (1)) E dX0_remember_44 (by decide) ?_
      refine V.iaddN E  dX0_remember_45 ?_
      refine V.putf (C := RX0) (T := TX0) (N := 3) (ref := "GlassSpill$History") (ws' := (bl [hiW G h ha o (n + 1), scW G (ha 0) (rg 0), scW G (ha 1) (rg 1), scW G (ha 2) (rg 2), scW G (ha 3) (rg 3), scW G (ha 4) (rg 4), scW G (ha 5) x, scW G b x])) E 0 0 2 (by decide +kernel) tyX0_ok nmX0 rfl rfl (by decide) (by decide +kernel) rfl rfl rfl rfl (Nat.le_of_ble_eq_true rfl) dX0_remember_46 rfl ?_
      refine V.goto (tgt := 67) E dX0_remember_49 (by decide) ?_
      have e1 : onN o n = o := by unfold onN; rw [if_neg (by omega)]
      have e2 : hlN n = n + 1 := by unfold hlN; rw [if_neg (by omega)]
      exact hend _ _ _ dX0_remember_67 ⟨by rw [e1, e2, hc]; rfl, rfl⟩
abbrev rm_c_X0_takeBack : Room := { frames := 2, cells := 0, slots := 0, locals := 48 }
theorem hd_X0_takeBack : yX0_takeBack.cls ≠ "java/lang/invoke/MethodHandle" ∧ yX0_takeBack.cls ≠ "java/lang/invoke/VarHandle" ∧ (parseMethodDescriptor yX0_takeBack.desc).map (fun d => d.parameters.length) = some 1 := by decide +kernel
set_option maxRecDepth 100000 in
set_option maxHeartbeats 8000000 in
theorem c_X0_takeBack (G : VC) (h : Nat → Nat) (ha : AD) (rg : Nat → SC) (o : Nat) (n : Nat) (b : Nat → Nat) (x : SC) (ho6 : o < 6) (hn6 : n ≤ 6) (hr : ∀ j, j < 6 → SInv (rg j)) (h0 : n ≠ 0) : Ctr yX0_takeBack wsX0_takeBack rm_c_X0_takeBack G [.ref (h 0), .ref (b 0)] (bl [hiW G h ha o n, scW G (ha 0) (rg 0), scW G (ha 1) (rg 1), scW G (ha 2) (rg 2), scW G (ha 3) (rg 3), scW G (ha 4) (rg 4), scW G (ha 5) (rg 5), scW G b x]) (fun v9_ u9_ => u9_ = (bl [hiW G h ha o (n - 1), scW G (ha 0) (rg 0), scW G (ha 1) (rg 1), scW G (ha 2) (rg 2), scW G (ha 3) (rg 3), scW G (ha 4) (rg 4), scW G (ha 5) (rg 5), scW G b (rg ((o + n - 1) % 6))]) ∧ v9_ = none) := by
  refine Ctr.void (cc := cX0_takeBack) (maxL := 3) (lv0 := [some (.ref (h 0)), some (.ref (b 0)), none]) (by decide) rfl rfl rfl (Nat.le_of_ble_eq_true rfl) (fun A X E hinit hend => ?_)
  refine V.aload_n E dX0_takeBack_0 rfl rfl ?_
  refine V.getf (C := RX0) (T := TX0) (N := 3) (ref := "GlassSpill$History") E 0 0 2 (by decide +kernel) rfl rfl (by decide) (by decide +kernel) rfl rfl dX0_takeBack_1 ?_
  refine V.if_neN (tgt := 8) E ((by omega)) dX0_takeBack_4 (by decide) (fun q_4 => ?_) (fun q_4 => ?_)
  · refine V.aload_n E dX0_takeBack_8 rfl rfl ?_
    refine V.getf (C := RX0) (T := TX0) (N := 3) (ref := "GlassSpill$History") E 0 0 0 (by decide +kernel) rfl rfl (by decide) (by decide +kernel) rfl rfl dX0_takeBack_9 ?_
    refine V.aload_n E dX0_takeBack_12 rfl rfl ?_
    refine V.getf (C := RX0) (T := TX0) (N := 3) (ref := "GlassSpill$History") E 0 0 1 (by decide +kernel) rfl rfl (by decide) (by decide +kernel) rfl rfl dX0_takeBack_13 ?_
    refine V.aload_n E dX0_takeBack_16 rfl rfl ?_
    refine V.getf (C := RX0) (T := TX0) (N := 3) (ref := "GlassSpill$History") E 0 0 2 (by decide +kernel) rfl rfl (by decide) (by decide +kernel) rfl rfl dX0_takeBack_17 ?_
    refine V.iaddN E  dX0_takeBack_20 ?_
    refine V.iconst (v := nI (1)) E dX0_takeBack_21 (by decide) ?_
    refine V.isubN E (by omega) dX0_takeBack_22 ?_
    refine V.bipush (v := nI (6)) E dX0_takeBack_23 (by decide) ?_
    refine V.callS E (c_J9_floorMod_7cf53 G ((o + n) - 1) (by omega)) (bl [hiW G h ha o n, scW G (ha 0) (rg 0), scW G (ha 1) (rg 1), scW G (ha 2) (rg 2), scW G (ha 3) (rg 3), scW G (ha 4) (rg 4), scW G (ha 5) (rg 5), scW G b x]) [.ref (h 1)] gX0_takeBack_J9_floorMod_7cf53 rfl hd_J9_floorMod_7cf53 ⟨⟨Nat.le_of_ble_eq_true rfl, Nat.le_of_ble_eq_true rfl⟩, Nat.le_of_ble_eq_true rfl, Nat.le_of_ble_eq_true rfl⟩ rfl (Nat.le_of_ble_eq_true rfl) rfl dX0_takeBack_25 (List.Perm.refl _) (kc' := 0) (ks' := 0) rfl rfl (rwI (ws' := (bl [hiW G h ha o n, scW G (ha 0) (rg 0), scW G (ha 1) (rg 1), scW G (ha 2) (rg 2), scW G (ha 3) (rg 3), scW G (ha 4) (rg 4), scW G (ha 5) (rg 5), scW G b x])) (List.Perm.refl _) ?_)
    rcases mod6 (o + n - 1) with hc | hc | hc | hc | hc | hc
    · refine V.topN (b := 0) (hc) ?_
      refine V.aaldN (v := .ref ((ha 0) 0)) E 1 rfl (by omega) (by decide) (rfl) dX0_takeBack_28 ?_
      refine V.astore_n (lv' := [some (.ref (h 0)), some (.ref (b 0)), some (.ref ((ha 0) 0))]) E dX0_takeBack_29 rfl (Nat.le_of_ble_eq_true rfl) rfl rfl ?_
      refine V.aload_n E dX0_takeBack_30 rfl rfl ?_
      refine V.ifnonnull (tgt := 35) E dX0_takeBack_31 (by decide) ?_
      refine V.aload_n E dX0_takeBack_35 rfl rfl ?_
      refine V.aload_n E dX0_takeBack_36 rfl rfl ?_
      refine V.callV (C := RX2) E (c_X2_copyFrom G b (ha 0) x (rg 0) (hr 0 (by decide))) (bl [hiW G h ha o n, scW G (ha 1) (rg 1), scW G (ha 2) (rg 2), scW G (ha 3) (rg 3), scW G (ha 4) (rg 4), scW G (ha 5) (rg 5)]) [] 32 2 rfl rfl rfl gX0_takeBack_X2_copyFrom rfl ⟨rfl, hd_X2_copyFrom⟩ ⟨⟨Nat.le_of_ble_eq_true rfl, Nat.le_of_ble_eq_true rfl⟩, Nat.le_of_ble_eq_true rfl, Nat.le_of_ble_eq_true rfl⟩ rfl (Nat.le_of_ble_eq_true rfl) rfl dX0_takeBack_37 (pBs (n := 8) [hiW G h ha o n, scW G (ha 0) (rg 0), scW G (ha 1) (rg 1), scW G (ha 2) (rg 2), scW G (ha 3) (rg 3), scW G (ha 4) (rg 4), scW G (ha 5) (rg 5), scW G b x] [7, 1] [0, 2, 3, 4, 5, 6] rfl (by decide)) (kc' := 0) (ks' := 0) rfl rfl (rwV (ws' := (bl [hiW G h ha o n, scW G (ha 0) (rg 0), scW G (ha 1) (rg 1), scW G (ha 2) (rg 2), scW G (ha 3) (rg 3), scW G (ha 4) (rg 4), scW G (ha 5) (rg 5), scW G b (rg 0)])) (pBs (n := 8) [hiW G h ha o n, scW G (ha 0) (rg 0), scW G (ha 1) (rg 1), scW G (ha 2) (rg 2), scW G (ha 3) (rg 3), scW G (ha 4) (rg 4), scW G (ha 5) (rg 5), scW G b (rg 0)] [7, 1] [0, 2, 3, 4, 5, 6] rfl (by decide)).symm ?_)
      refine V.aload_n E dX0_takeBack_40 rfl rfl ?_
      refine V.dup E dX0_takeBack_41 rfl ?_
      refine V.getf (C := RX0) (T := TX0) (N := 3) (ref := "GlassSpill$History") E 0 0 2 (by decide +kernel) rfl rfl (by decide) (by decide +kernel) rfl rfl dX0_takeBack_42 ?_
      refine V.iconst (v := nI (1)) E dX0_takeBack_45 (by decide) ?_
      refine V.isubN E (by omega) dX0_takeBack_46 ?_
      refine V.putf (C := RX0) (T := TX0) (N := 3) (ref := "GlassSpill$History") (ws' := (bl [hiW G h ha o (n - 1), scW G (ha 0) (rg 0), scW G (ha 1) (rg 1), scW G (ha 2) (rg 2), scW G (ha 3) (rg 3), scW G (ha 4) (rg 4), scW G (ha 5) (rg 5), scW G b (rg 0)])) E 0 0 2 (by decide +kernel) tyX0_ok nmX0 rfl rfl (by decide) (by decide +kernel) rfl rfl rfl rfl (Nat.le_of_ble_eq_true rfl) dX0_takeBack_47 rfl ?_
      exact hend _ _ _ dX0_takeBack_50 ⟨by rw [hc], rfl⟩
    · refine V.topN (b := 1) (hc) ?_
      refine V.aaldN (v := .ref ((ha 1) 0)) E 1 rfl (by omega) (by decide) (rfl) dX0_takeBack_28 ?_
      refine V.astore_n (lv' := [some (.ref (h 0)), some (.ref (b 0)), some (.ref ((ha 1) 0))]) E dX0_takeBack_29 rfl (Nat.le_of_ble_eq_true rfl) rfl rfl ?_
      refine V.aload_n E dX0_takeBack_30 rfl rfl ?_
      refine V.ifnonnull (tgt := 35) E dX0_takeBack_31 (by decide) ?_
      refine V.aload_n E dX0_takeBack_35 rfl rfl ?_
      refine V.aload_n E dX0_takeBack_36 rfl rfl ?_
      refine V.callV (C := RX2) E (c_X2_copyFrom G b (ha 1) x (rg 1) (hr 1 (by decide))) (bl [hiW G h ha o n, scW G (ha 0) (rg 0), scW G (ha 2) (rg 2), scW G (ha 3) (rg 3), scW G (ha 4) (rg 4), scW G (ha 5) (rg 5)]) [] 32 2 rfl rfl rfl gX0_takeBack_X2_copyFrom rfl ⟨rfl, hd_X2_copyFrom⟩ ⟨⟨Nat.le_of_ble_eq_true rfl, Nat.le_of_ble_eq_true rfl⟩, Nat.le_of_ble_eq_true rfl, Nat.le_of_ble_eq_true rfl⟩ rfl (Nat.le_of_ble_eq_true rfl) rfl dX0_takeBack_37 (pBs (n := 8) [hiW G h ha o n, scW G (ha 0) (rg 0), scW G (ha 1) (rg 1), scW G (ha 2) (rg 2), scW G (ha 3) (rg 3), scW G (ha 4) (rg 4), scW G (ha 5) (rg 5), scW G b x] [7, 2] [0, 1, 3, 4, 5, 6] rfl (by decide)) (kc' := 0) (ks' := 0) rfl rfl (rwV (ws' := (bl [hiW G h ha o n, scW G (ha 0) (rg 0), scW G (ha 1) (rg 1), scW G (ha 2) (rg 2), scW G (ha 3) (rg 3), scW G (ha 4) (rg 4), scW G (ha 5) (rg 5), scW G b (rg 1)])) (pBs (n := 8) [hiW G h ha o n, scW G (ha 0) (rg 0), scW G (ha 1) (rg 1), scW G (ha 2) (rg 2), scW G (ha 3) (rg 3), scW G (ha 4) (rg 4), scW G (ha 5) (rg 5), scW G b (rg 1)] [7, 2] [0, 1, 3, 4, 5, 6] rfl (by decide)).symm ?_)
      refine V.aload_n E dX0_takeBack_40 rfl rfl ?_
      refine V.dup E dX0_takeBack_41 rfl ?_
      refine V.getf (C := RX0) (T := TX0) (N := 3) (ref := "GlassSpill$History") E 0 0 2 (by decide +kernel) rfl rfl (by decide) (by decide +kernel) rfl rfl dX0_takeBack_42 ?_
      refine V.iconst (v := nI (1)) E dX0_takeBack_45 (by decide) ?_
      refine V.isubN E (by omega) dX0_takeBack_46 ?_
      refine V.putf (C := RX0) (T := TX0) (N := 3) (ref := "GlassSpill$History") (ws' := (bl [hiW G h ha o (n - 1), scW G (ha 0) (rg 0), scW G (ha 1) (rg 1), scW G (ha 2) (rg 2), scW G (ha 3) (rg 3), scW G (ha 4) (rg 4), scW G (ha 5) (rg 5), scW G b (rg 1)])) E 0 0 2 (by decide +kernel) tyX0_ok nmX0 rfl rfl (by decide) (by decide +kernel) rfl rfl rfl rfl (Nat.le_of_ble_eq_true rfl) dX0_takeBack_47 rfl ?_
      exact hend _ _ _ dX0_takeBack_50 ⟨by rw [hc], rfl⟩
    · refine V.topN (b := 2) (hc) ?_
      refine V.aaldN (v := .ref ((ha 2) 0)) E 1 rfl (by omega) (by decide) (rfl) dX0_takeBack_28 ?_
      refine V.astore_n (lv' := [some (.ref (h 0)), some (.ref (b 0)), some (.ref ((ha 2) 0))]) E dX0_takeBack_29 rfl (Nat.le_of_ble_eq_true rfl) rfl rfl ?_
      refine V.aload_n E dX0_takeBack_30 rfl rfl ?_
      refine V.ifnonnull (tgt := 35) E dX0_takeBack_31 (by decide) ?_
      refine V.aload_n E dX0_takeBack_35 rfl rfl ?_
      refine V.aload_n E dX0_takeBack_36 rfl rfl ?_
      refine V.callV (C := RX2) E (c_X2_copyFrom G b (ha 2) x (rg 2) (hr 2 (by decide))) (bl [hiW G h ha o n, scW G (ha 0) (rg 0), scW G (ha 1) (rg 1), scW G (ha 3) (rg 3), scW G (ha 4) (rg 4), scW G (ha 5) (rg 5)]) [] 32 2 rfl rfl rfl gX0_takeBack_X2_copyFrom rfl ⟨rfl, hd_X2_copyFrom⟩ ⟨⟨Nat.le_of_ble_eq_true rfl, Nat.le_of_ble_eq_true rfl⟩, Nat.le_of_ble_eq_true rfl, Nat.le_of_ble_eq_true rfl⟩ rfl (Nat.le_of_ble_eq_true rfl) rfl dX0_takeBack_37 (pBs (n := 8) [hiW G h ha o n, scW G (ha 0) (rg 0), scW G (ha 1) (rg 1), scW G (ha 2) (rg 2), scW G (ha 3) (rg 3), scW G (ha 4) (rg 4), scW G (ha 5) (rg 5), scW G b x] [7, 3] [0, 1, 2, 4, 5, 6] rfl (by decide)) (kc' := 0) (ks' := 0) rfl rfl (rwV (ws' := (bl [hiW G h ha o n, scW G (ha 0) (rg 0), scW G (ha 1) (rg 1), scW G (ha 2) (rg 2), scW G (ha 3) (rg 3), scW G (ha 4) (rg 4), scW G (ha 5) (rg 5), scW G b (rg 2)])) (pBs (n := 8) [hiW G h ha o n, scW G (ha 0) (rg 0), scW G (ha 1) (rg 1), scW G (ha 2) (rg 2), scW G (ha 3) (rg 3), scW G (ha 4) (rg 4), scW G (ha 5) (rg 5), scW G b (rg 2)] [7, 3] [0, 1, 2, 4, 5, 6] rfl (by decide)).symm ?_)
      refine V.aload_n E dX0_takeBack_40 rfl rfl ?_
      refine V.dup E dX0_takeBack_41 rfl ?_
      refine V.getf (C := RX0) (T := TX0) (N := 3) (ref := "GlassSpill$History") E 0 0 2 (by decide +kernel) rfl rfl (by decide) (by decide +kernel) rfl rfl dX0_takeBack_42 ?_
      refine V.iconst (v := nI (1)) E dX0_takeBack_45 (by decide) ?_
      refine V.isubN E (by omega) dX0_takeBack_46 ?_
      refine V.putf (C := RX0) (T := TX0) (N := 3) (ref := "GlassSpill$History") (ws' := (bl [hiW G h ha o (n - 1), scW G (ha 0) (rg 0), scW G (ha 1) (rg 1), scW G (ha 2) (rg 2), scW G (ha 3) (rg 3), scW G (ha 4) (rg 4), scW G (ha 5) (rg 5), scW G b (rg 2)])) E 0 0 2 (by decide +kernel) tyX0_ok nmX0 rfl rfl (by decide) (by decide +kernel) rfl rfl rfl rfl (Nat.le_of_ble_eq_true rfl) dX0_takeBack_47 rfl ?_
      exact hend _ _ _ dX0_takeBack_50 ⟨by rw [hc], rfl⟩
    · refine V.topN (b := 3) (hc) ?_
      refine V.aaldN (v := .ref ((ha 3) 0)) E 1 rfl (by omega) (by decide) (rfl) dX0_takeBack_28 ?_
      refine V.astore_n (lv' := [some (.ref (h 0)), some (.ref (b 0)), some (.ref ((ha 3) 0))]) E dX0_takeBack_29 rfl (Nat.le_of_ble_eq_true rfl) rfl rfl ?_
      refine V.aload_n E dX0_takeBack_30 rfl rfl ?_
      refine V.ifnonnull (tgt := 35) E dX0_takeBack_31 (by decide) ?_
      refine V.aload_n E dX0_takeBack_35 rfl rfl ?_
      refine V.aload_n E dX0_takeBack_36 rfl rfl ?_
      refine V.callV (C := RX2) E (c_X2_copyFrom G b (ha 3) x (rg 3) (hr 3 (by decide))) (bl [hiW G h ha o n, scW G (ha 0) (rg 0), scW G (ha 1) (rg 1), scW G (ha 2) (rg 2), scW G (ha 4) (rg 4), scW G (ha 5) (rg 5)]) [] 32 2 rfl rfl rfl gX0_takeBack_X2_copyFrom rfl ⟨rfl, hd_X2_copyFrom⟩ ⟨⟨Nat.le_of_ble_eq_true rfl, Nat.le_of_ble_eq_true rfl⟩, Nat.le_of_ble_eq_true rfl, Nat.le_of_ble_eq_true rfl⟩ rfl (Nat.le_of_ble_eq_true rfl) rfl dX0_takeBack_37 (pBs (n := 8) [hiW G h ha o n, scW G (ha 0) (rg 0), scW G (ha 1) (rg 1), scW G (ha 2) (rg 2), scW G (ha 3) (rg 3), scW G (ha 4) (rg 4), scW G (ha 5) (rg 5), scW G b x] [7, 4] [0, 1, 2, 3, 5, 6] rfl (by decide)) (kc' := 0) (ks' := 0) rfl rfl (rwV (ws' := (bl [hiW G h ha o n, scW G (ha 0) (rg 0), scW G (ha 1) (rg 1), scW G (ha 2) (rg 2), scW G (ha 3) (rg 3), scW G (ha 4) (rg 4), scW G (ha 5) (rg 5), scW G b (rg 3)])) (pBs (n := 8) [hiW G h ha o n, scW G (ha 0) (rg 0), scW G (ha 1) (rg 1), scW G (ha 2) (rg 2), scW G (ha 3) (rg 3), scW G (ha 4) (rg 4), scW G (ha 5) (rg 5), scW G b (rg 3)] [7, 4] [0, 1, 2, 3, 5, 6] rfl (by decide)).symm ?_)
      refine V.aload_n E dX0_takeBack_40 rfl rfl ?_
      refine V.dup E dX0_takeBack_41 rfl ?_
      refine V.getf (C := RX0) (T := TX0) (N := 3) (ref := "GlassSpill$History") E 0 0 2 (by decide +kernel) rfl rfl (by decide) (by decide +kernel) rfl rfl dX0_takeBack_42 ?_
      refine V.iconst (v := nI (1)) E dX0_takeBack_45 (by decide) ?_
      refine V.isubN E (by omega) dX0_takeBack_46 ?_
      refine V.putf (C := RX0) (T := TX0) (N := 3) (ref := "GlassSpill$History") (ws' := (bl [hiW G h ha o (n - 1), scW G (ha 0) (rg 0), scW G (ha 1) (rg 1), scW G (ha 2) (rg 2), scW G (ha 3) (rg 3), scW G (ha 4) (rg 4), scW G (ha 5) (rg 5), scW G b (rg 3)])) E 0 0 2 (by decide +kernel) tyX0_ok nmX0 rfl rfl (by decide) (by decide +kernel) rfl rfl rfl rfl (Nat.le_of_ble_eq_true rfl) dX0_takeBack_47 rfl ?_
      exact hend _ _ _ dX0_takeBack_50 ⟨by rw [hc], rfl⟩
    · refine V.topN (b := 4) (hc) ?_
      refine V.aaldN (v := .ref ((ha 4) 0)) E 1 rfl (by omega) (by decide) (rfl) dX0_takeBack_28 ?_
      refine V.astore_n (lv' := [some (.ref (h 0)), some (.ref (b 0)), some (.ref ((ha 4) 0))]) E dX0_takeBack_29 rfl (Nat.le_of_ble_eq_true rfl) rfl rfl ?_
      refine V.aload_n E dX0_takeBack_30 rfl rfl ?_
      refine V.ifnonnull (tgt := 35) E dX0_takeBack_31 (by decide) ?_
      refine V.aload_n E dX0_takeBack_35 rfl rfl ?_
      refine V.aload_n E dX0_takeBack_36 rfl rfl ?_
      refine V.callV (C := RX2) E (c_X2_copyFrom G b (ha 4) x (rg 4) (hr 4 (by decide))) (bl [hiW G h ha o n, scW G (ha 0) (rg 0), scW G (ha 1) (rg 1), scW G (ha 2) (rg 2), scW G (ha 3) (rg 3), scW G (ha 5) (rg 5)]) [] 32 2 rfl rfl rfl gX0_takeBack_X2_copyFrom rfl ⟨rfl, hd_X2_copyFrom⟩ ⟨⟨Nat.le_of_ble_eq_true rfl, Nat.le_of_ble_eq_true rfl⟩, Nat.le_of_ble_eq_true rfl, Nat.le_of_ble_eq_true rfl⟩ rfl (Nat.le_of_ble_eq_true rfl) rfl dX0_takeBack_37 (pBs (n := 8) [hiW G h ha o n, scW G (ha 0) (rg 0), scW G (ha 1) (rg 1), scW G (ha 2) (rg 2), scW G (ha 3) (rg 3), scW G (ha 4) (rg 4), scW G (ha 5) (rg 5), scW G b x] [7, 5] [0, 1, 2, 3, 4, 6] rfl (by decide)) (kc' := 0) (ks' := 0) rfl rfl (rwV (ws' := (bl [hiW G h ha o n, scW G (ha 0) (rg 0), scW G (ha 1) (rg 1), scW G (ha 2) (rg 2), scW G (ha 3) (rg 3), scW G (ha 4) (rg 4), scW G (ha 5) (rg 5), scW G b (rg 4)])) (pBs (n := 8) [hiW G h ha o n, scW G (ha 0) (rg 0), scW G (ha 1) (rg 1), scW G (ha 2) (rg 2), scW G (ha 3) (rg 3), scW G (ha 4) (rg 4), scW G (ha 5) (rg 5), scW G b (rg 4)] [7, 5] [0, 1, 2, 3, 4, 6] rfl (by decide)).symm ?_)
      refine V.aload_n E dX0_takeBack_40 rfl rfl ?_
      refine V.dup E dX0_takeBack_41 rfl ?_
      refine V.getf (C := RX0) (T := TX0) (N := 3) (ref := "GlassSpill$History") E 0 0 2 (by decide +kernel) rfl rfl (by decide) (by decide +kernel) rfl rfl dX0_takeBack_42 ?_
      refine V.iconst (v := nI (1)) E dX0_takeBack_45 (by decide) ?_
      refine V.isubN E (by omega) dX0_takeBack_46 ?_
      refine V.putf (C := RX0) (T := TX0) (N := 3) (ref := "GlassSpill$History") (ws' := (bl [hiW G h ha o (n - 1), scW G (ha 0) (rg 0), scW G (ha 1) (rg 1), scW G (ha 2) (rg 2), scW G (ha 3) (rg 3), scW G (ha 4) (rg 4), scW G (ha 5) (rg 5), scW G b (rg 4)])) E 0 0 2 (by decide +kernel) tyX0_ok nmX0 rfl rfl (by decide) (by decide +kernel) rfl rfl rfl rfl (Nat.le_of_ble_eq_true rfl) dX0_takeBack_47 rfl ?_
      exact hend _ _ _ dX0_takeBack_50 ⟨by rw [hc], rfl⟩
    · refine V.topN (b := 5) (hc) ?_
      refine V.aaldN (v := .ref ((ha 5) 0)) E 1 rfl (by omega) (by decide) (rfl) dX0_takeBack_28 ?_
      refine V.astore_n (lv' := [some (.ref (h 0)), some (.ref (b 0)), some (.ref ((ha 5) 0))]) E dX0_takeBack_29 rfl (Nat.le_of_ble_eq_true rfl) rfl rfl ?_
      refine V.aload_n E dX0_takeBack_30 rfl rfl ?_
      refine V.ifnonnull (tgt := 35) E dX0_takeBack_31 (by decide) ?_
      refine V.aload_n E dX0_takeBack_35 rfl rfl ?_
      refine V.aload_n E dX0_takeBack_36 rfl rfl ?_
      refine V.callV (C := RX2) E (c_X2_copyFrom G b (ha 5) x (rg 5) (hr 5 (by decide))) (bl [hiW G h ha o n, scW G (ha 0) (rg 0), scW G (ha 1) (rg 1), scW G (ha 2) (rg 2), scW G (ha 3) (rg 3), scW G (ha 4) (rg 4)]) [] 32 2 rfl rfl rfl gX0_takeBack_X2_copyFrom rfl ⟨rfl, hd_X2_copyFrom⟩ ⟨⟨Nat.le_of_ble_eq_true rfl, Nat.le_of_ble_eq_true rfl⟩, Nat.le_of_ble_eq_true rfl, Nat.le_of_ble_eq_true rfl⟩ rfl (Nat.le_of_ble_eq_true rfl) rfl dX0_takeBack_37 (pBs (n := 8) [hiW G h ha o n, scW G (ha 0) (rg 0), scW G (ha 1) (rg 1), scW G (ha 2) (rg 2), scW G (ha 3) (rg 3), scW G (ha 4) (rg 4), scW G (ha 5) (rg 5), scW G b x] [7, 6] [0, 1, 2, 3, 4, 5] rfl (by decide)) (kc' := 0) (ks' := 0) rfl rfl (rwV (ws' := (bl [hiW G h ha o n, scW G (ha 0) (rg 0), scW G (ha 1) (rg 1), scW G (ha 2) (rg 2), scW G (ha 3) (rg 3), scW G (ha 4) (rg 4), scW G (ha 5) (rg 5), scW G b (rg 5)])) (pBs (n := 8) [hiW G h ha o n, scW G (ha 0) (rg 0), scW G (ha 1) (rg 1), scW G (ha 2) (rg 2), scW G (ha 3) (rg 3), scW G (ha 4) (rg 4), scW G (ha 5) (rg 5), scW G b (rg 5)] [7, 6] [0, 1, 2, 3, 4, 5] rfl (by decide)).symm ?_)
      refine V.aload_n E dX0_takeBack_40 rfl rfl ?_
      refine V.dup E dX0_takeBack_41 rfl ?_
      refine V.getf (C := RX0) (T := TX0) (N := 3) (ref := "GlassSpill$History") E 0 0 2 (by decide +kernel) rfl rfl (by decide) (by decide +kernel) rfl rfl dX0_takeBack_42 ?_
      refine V.iconst (v := nI (1)) E dX0_takeBack_45 (by decide) ?_
      refine V.isubN E (by omega) dX0_takeBack_46 ?_
      refine V.putf (C := RX0) (T := TX0) (N := 3) (ref := "GlassSpill$History") (ws' := (bl [hiW G h ha o (n - 1), scW G (ha 0) (rg 0), scW G (ha 1) (rg 1), scW G (ha 2) (rg 2), scW G (ha 3) (rg 3), scW G (ha 4) (rg 4), scW G (ha 5) (rg 5), scW G b (rg 5)])) E 0 0 2 (by decide +kernel) tyX0_ok nmX0 rfl rfl (by decide) (by decide +kernel) rfl rfl rfl rfl (Nat.le_of_ble_eq_true rfl) dX0_takeBack_47 rfl ?_
      exact hend _ _ _ dX0_takeBack_50 ⟨by rw [hc], rfl⟩
  · exact absurd q_4 h0
