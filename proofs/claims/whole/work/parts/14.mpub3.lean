/-! the reference: what if -/
abbrev RG : Type := (Nat → Nat) × (Nat → Nat) × (Nat → Nat) × (Nat → Nat) × (Nat → Nat) × (Nat → Nat) × Nat
abbrev rm_c_X5_bestScreen_bad : Room := { frames := 1, cells := 0, slots := 0, locals := 25 }
theorem hd_X5_bestScreen : yX5_bestScreen.cls ≠ "java/lang/invoke/MethodHandle" ∧ yX5_bestScreen.cls ≠ "java/lang/invoke/VarHandle" ∧ (parseMethodDescriptor yX5_bestScreen.desc).map (fun d => d.parameters.length) = some 1 := by decide +kernel
set_option maxRecDepth 100000 in
set_option maxHeartbeats 8000000 in
theorem c_X5_bestScreen_bad (G : VC) (a : Nat → Nat) (hi : Nat → Nat) (sl : Nat → Nat) (sv : Nat → Nat) (r : Nat → Nat) (o : Nat → Nat) (k : Nat → Nat) (t : Nat → Nat) (m : Nat → Nat) (e : Nat → Nat) (w : Nat → Nat) (tx : Nat → Nat) (cl : Nat → Int32) (hl : Nat) (tl : Nat) (sp : Nat) (rd : Nat) (x : SC) (w_ : Int32) (hb : okI 2 w_ = false) : Ctr yX5_bestScreen wsX5_bestScreen rm_c_X5_bestScreen_bad G [.ref (a 0), .int (w_)] (bl [mdW G a (fla x) hi sl sv r o k t m e w tx cl hl tl sp rd]) (fun v9_ u9_ => u9_ = (bl [mdW G a (fla x) hi sl sv r o k t m e w tx cl hl tl sp rd]) ∧ v9_ = some (.int ((-2 : Int32)))) := by
  refine Ctr.int (cc := cX5_bestScreen) (maxL := 7) (ret := (some .int)) (lv0 := [some (.ref (a 0)), some (.int (w_)), none, none, none, none, none]) (by decide) rfl rfl rfl (Nat.le_of_ble_eq_true rfl) rfl (fun A X E hend => ?_)
  refine V.iload_n E dX5_bestScreen_0 rfl rfl ?_
  refine V.i2l E dX5_bestScreen_1 rfl ?_
  refine V.lconst (v := 0) E dX5_bestScreen_2 (by decide) ?_
  refine V.lconst (v := 1) E dX5_bestScreen_3 (by decide) ?_
  refine V.callS E (c_X5_in G w_.toInt64 ((0 : Int64)) ((1 : Int64)) ) (bl [mdW G a (fla x) hi sl sv r o k t m e w tx cl hl tl sp rd]) [] gX5_bestScreen_X5_in rfl hd_X5_in ⟨⟨Nat.le_of_ble_eq_true rfl, Nat.le_of_ble_eq_true rfl⟩, Nat.le_of_ble_eq_true rfl, Nat.le_of_ble_eq_true rfl⟩ rfl (Nat.le_of_ble_eq_true rfl) rfl dX5_bestScreen_4 (List.Perm.refl _) (kc' := 0) (ks' := 0) rfl rfl (rwI (ws' := (bl [mdW G a (fla x) hi sl sv r o k t m e w tx cl hl tl sp rd])) (List.Perm.refl _) ?_)
  refine V.topN (b := bN (okI 2 w_)) (congrArg bN (inL_ok _ (n := 1) (by decide))) ?_
  refine V.if_neB (tgt := 13) E dX5_bestScreen_7 (by decide) (fun q_7 => ?_) (fun q_7 => ?_)
  · exact absurd (hb.symm.trans q_7) (by decide)
  · refine V.bipush (v := (-2 : Int32)) E dX5_bestScreen_10 (by decide) ?_
    exact hend _ _ _ _ dX5_bestScreen_12 (nrI _) ⟨rfl, rfl⟩
abbrev rm_c_X5_bestScreen_ok : Room := { frames := 5, cells := 0, slots := 0, locals := 116 }
set_option maxRecDepth 100000 in
set_option maxHeartbeats 8000000 in
theorem c_X5_bestScreen_ok (G : VC) (a : Nat → Nat) (hi : Nat → Nat) (sl : Nat → Nat) (sv : Nat → Nat) (r : Nat → Nat) (o : Nat → Nat) (k : Nat → Nat) (t : Nat → Nat) (m : Nat → Nat) (e : Nat → Nat) (w : Nat → Nat) (tx : Nat → Nat) (cl : Nat → Int32) (hl : Nat) (tl : Nat) (sp : Nat) (rd : Nat) (x : SC) (w_ : Nat) (hx : SInv x) (hw : w_ < 2) : Ctr yX5_bestScreen wsX5_bestScreen rm_c_X5_bestScreen_ok G [.ref (a 0), .int (nI (w_))] (bl [mdW G a (fla x) hi sl sv r o k t m e w tx cl hl tl sp rd]) (fun v9_ u9_ => ∃ gg : RG, u9_ = (bl [mdW G a (fla x) hi sl sv gg.1 gg.2.1 gg.2.2.1 gg.2.2.2.1 gg.2.2.2.2.1 gg.2.2.2.2.2.1 w tx cl hl tl sp rd]) ∧ v9_ = some (.int (if w_ = 0 then nI (bst x 48).1 else (bst x 48).2)) ∧ (True)) := by
  refine Ctr.int (cc := cX5_bestScreen) (maxL := 7) (ret := (some .int)) (lv0 := [some (.ref (a 0)), some (.int (nI (w_))), none, none, none, none, none]) (by decide) rfl rfl rfl (Nat.le_of_ble_eq_true rfl) rfl (fun A X E hend => ?_)
  refine V.iload_n E dX5_bestScreen_0 rfl rfl ?_
  refine V.i2l E dX5_bestScreen_1 rfl ?_
  refine V.lconst (v := 0) E dX5_bestScreen_2 (by decide) ?_
  refine V.lconst (v := 1) E dX5_bestScreen_3 (by decide) ?_
  refine V.callS E (c_X5_in G ((nI (w_)).toInt64) ((0 : Int64)) ((1 : Int64)) ) (bl [mdW G a (fla x) hi sl sv r o k t m e w tx cl hl tl sp rd]) [] gX5_bestScreen_X5_in rfl hd_X5_in ⟨⟨Nat.le_of_ble_eq_true rfl, Nat.le_of_ble_eq_true rfl⟩, Nat.le_of_ble_eq_true rfl, Nat.le_of_ble_eq_true rfl⟩ rfl (Nat.le_of_ble_eq_true rfl) rfl dX5_bestScreen_4 (List.Perm.refl _) (kc' := 0) (ks' := 0) rfl rfl (rwI (ws' := (bl [mdW G a (fla x) hi sl sv r o k t m e w tx cl hl tl sp rd])) (List.Perm.refl _) ?_)
  refine V.topN (b := bN (okI 2 (nI w_))) (congrArg bN (inL_ok _ (n := 1) (by decide))) ?_
  refine V.if_neB (tgt := 13) E dX5_bestScreen_7 (by decide) (fun q_7 => ?_) (fun q_7 => ?_)
  · refine V.aload_n E dX5_bestScreen_13 rfl rfl ?_
    refine V.getf (C := RX5) (T := TX5) (N := 17) (ref := "GlassSpillModel") E 0 5 0 (by decide +kernel) rfl rfl (by decide) (by decide +kernel) rfl rfl dX5_bestScreen_14 ?_
    refine V.bipush (v := nI (6)) E dX5_bestScreen_17 (by decide) ?_
    refine V.ialdN (v := nI (scC x)) E 1 rfl (by omega) (by decide) (congrArg nI (fla_C _)) dX5_bestScreen_19 ?_
    refine V.istore_n (lv' := [some (.ref (a 0)), some (.int (nI (w_))), some (.int (nI (scC x))), none, none, none, none]) E dX5_bestScreen_20 rfl (Nat.le_of_ble_eq_true rfl) rfl rfl ?_
    refine V.iconst (v := nI (0)) E dX5_bestScreen_21 (by decide) ?_
    refine V.istore_n (lv' := [some (.ref (a 0)), some (.int (nI (w_))), some (.int (nI (scC x))), some (.int (nI (0))), none, none, none]) E dX5_bestScreen_22 rfl (Nat.le_of_ble_eq_true rfl) rfl rfl ?_
    refine V.iconst (v := (-1 : Int32)) E dX5_bestScreen_23 (by decide) ?_
    refine V.istore (lv' := [some (.ref (a 0)), some (.int (nI (w_))), some (.int (nI (scC x))), some (.int (nI (0))), some (.int ((-1 : Int32))), none, none]) E dX5_bestScreen_24 (Nat.le_of_ble_eq_true rfl) rfl rfl ?_
    refine V.iconst (v := nI (0)) E dX5_bestScreen_26 (by decide) ?_
    refine V.istore (lv' := [some (.ref (a 0)), some (.int (nI (w_))), some (.int (nI (scC x))), some (.int (nI (0))), some (.int ((-1 : Int32))), some (.int (nI (0))), none]) E dX5_bestScreen_27 (Nat.le_of_ble_eq_true rfl) rfl rfl ?_
    refine V.locN (b := (bst x 0).1) (lv' := [some (.ref (a 0)), some (.int (nI (w_))), some (.int (nI (scC x))), some (.int (nI ((bst x 0).1))), some (.int ((-1 : Int32))), some (.int (nI (0))), none]) 3 (rfl) rfl rfl ?_
    refine V.loc (y := (bst x 0).2) (lv' := [some (.ref (a 0)), some (.int (nI (w_))), some (.int (nI (scC x))), some (.int (nI ((bst x 0).1))), some (.int ((bst x 0).2)), some (.int (nI (0))), none]) 4 (rfl) rfl rfl ?_
    show V G A X rm_c_X5_bestScreen_ok (bl [mdW G a (fla (scS x, scF x, scB x, scG x, ((r, o, k, t, m, e, scC x)).2.2.2.2.2.2)) hi sl sv (((r, o, k, t, m, e, scC x)).1) (((r, o, k, t, m, e, scC x)).2.1) (((r, o, k, t, m, e, scC x)).2.2.1) (((r, o, k, t, m, e, scC x)).2.2.2.1) (((r, o, k, t, m, e, scC x)).2.2.2.2.1) (((r, o, k, t, m, e, scC x)).2.2.2.2.2.1) w tx cl hl tl sp rd]) 0 0 29 [some (.ref (a 0)), some (.int (nI (w_))), some (.int (nI (scC x))), some (.int (nI ((bst x 0).1))), some (.int ((bst x 0).2)), some (.int (nI (0))), none] []
    refine loopN (P := fun i29 => ∀ gg : RG, (gg.2.2.2.2.2.2 < 4096) → V G A X rm_c_X5_bestScreen_ok (bl [mdW G a (fla (scS x, scF x, scB x, scG x, gg.2.2.2.2.2.2)) hi sl sv gg.1 gg.2.1 gg.2.2.1 gg.2.2.2.1 gg.2.2.2.2.1 gg.2.2.2.2.2.1 w tx cl hl tl sp rd]) 0 0 29 [some (.ref (a 0)), some (.int (nI (w_))), some (.int (nI (scC x))), some (.int (nI ((bst x i29).1))), some (.int ((bst x i29).2)), some (.int (nI (i29))), none] []) 48 (fun i29 hi_29 ih_29 gg hg_29 => ?_) 0 (Nat.zero_le _) ((r, o, k, t, m, e, scC x)) (hx.c)
    refine V.iload E dX5_bestScreen_29 rfl ?_
    refine V.bipush (v := nI (48)) E dX5_bestScreen_31 (by decide) ?_
    refine V.icmp_geN (tgt := 100) E (by omega) (by omega) dX5_bestScreen_33 (by decide) (fun q_33 => ?_) (fun q_33 => ?_)
    · obtain rfl : i29 = 48 := by omega
      refine V.aload_n E dX5_bestScreen_100 rfl rfl ?_
      refine V.getf (C := RX5) (T := TX5) (N := 17) (ref := "GlassSpillModel") E 0 5 0 (by decide +kernel) rfl rfl (by decide) (by decide +kernel) rfl rfl dX5_bestScreen_101 ?_
      refine V.bipush (v := nI (6)) E dX5_bestScreen_104 (by decide) ?_
      refine V.iload_n E dX5_bestScreen_106 rfl rfl ?_
      refine V.iastN (f' := nA (fla x)) (ws' := (bl [mdW G a (fla x) hi sl sv gg.1 gg.2.1 gg.2.2.1 gg.2.2.2.1 gg.2.2.2.2.1 gg.2.2.2.2.2.1 w tx cl hl tl sp rd])) E 1 rfl (by omega) (by decide) dX5_bestScreen_107 (fun j _ => fla_uC (scS x, scF x, scB x, scG x, gg.2.2.2.2.2.2) j) rfl ?_
      refine V.iload_n E dX5_bestScreen_108 rfl rfl ?_
      refine V.if_neN (tgt := 116) E (by omega) dX5_bestScreen_109 (by decide) (fun q_109 => ?_) (fun q_109 => ?_)
      · refine V.iload E dX5_bestScreen_116 rfl ?_
        refine V.top (y := if w_ = 0 then nI (bst x 48).1 else (bst x 48).2) (by first | rw [if_pos q_109] | rw [if_neg q_109]) ?_
        exact hend _ _ _ _ dX5_bestScreen_118 (nrI _) ⟨gg, rfl, rfl, trivial⟩
      · refine V.iload_n E dX5_bestScreen_112 rfl rfl ?_
        refine V.goto (tgt := 118) E dX5_bestScreen_113 (by decide) ?_
        refine V.top (y := if w_ = 0 then nI (bst x 48).1 else (bst x 48).2) (by first | rw [if_pos q_109] | rw [if_neg q_109]) ?_
        exact hend _ _ _ _ dX5_bestScreen_118 (nrI _) ⟨gg, rfl, rfl, trivial⟩
    · refine V.aload_n E dX5_bestScreen_36 rfl rfl ?_
      refine V.getf (C := RX5) (T := TX5) (N := 17) (ref := "GlassSpillModel") E 0 5 0 (by decide +kernel) rfl rfl (by decide) (by decide +kernel) rfl rfl dX5_bestScreen_37 ?_
      refine V.bipush (v := nI (6)) E dX5_bestScreen_40 (by decide) ?_
      refine V.aload_n E dX5_bestScreen_42 rfl rfl ?_
      refine V.getf (C := RX5) (T := TX5) (N := 17) (ref := "GlassSpillModel") E 0 5 0 (by decide +kernel) rfl rfl (by decide) (by decide +kernel) rfl rfl dX5_bestScreen_43 ?_
      refine V.bipush (v := nI (7)) E dX5_bestScreen_46 (by decide) ?_
      refine V.iload E dX5_bestScreen_48 rfl ?_
      refine V.iaddN E  dX5_bestScreen_50 ?_
      refine V.ialdN (v := nI (scF x i29)) E 1 rfl (by omega) (by decide) (congrArg nI (fla_F _ (by omega))) dX5_bestScreen_51 ?_
      refine V.iastN (f' := nA (fla (scS x, scF x, scB x, scG x, scF x i29))) (ws' := (bl [mdW G a (fla (scS x, scF x, scB x, scG x, scF x i29)) hi sl sv gg.1 gg.2.1 gg.2.2.1 gg.2.2.2.1 gg.2.2.2.2.1 gg.2.2.2.2.2.1 w tx cl hl tl sp rd])) E 1 rfl (by omega) (by decide) dX5_bestScreen_52 (fun j _ => fla_uC (scS x, scF x, scB x, scG x, gg.2.2.2.2.2.2) j) rfl ?_
      refine V.aload_n E dX5_bestScreen_53 rfl rfl ?_
      refine V.callV (C := RX5) E (c_X5_works G a hi sl sv gg.1 gg.2.1 gg.2.2.1 gg.2.2.2.1 gg.2.2.2.2.1 gg.2.2.2.2.2.1 w tx cl hl tl sp rd (scS x, scF x, scB x, scG x, scF x i29) (hx.scr (hx.f _ (by omega)))) (bl []) [] 0 5 rfl rfl rfl gX5_bestScreen_X5_works rfl ⟨rfl, hd_X5_works⟩ ⟨⟨Nat.le_of_ble_eq_true rfl, Nat.le_of_ble_eq_true rfl⟩, Nat.le_of_ble_eq_true rfl, Nat.le_of_ble_eq_true rfl⟩ rfl (Nat.le_of_ble_eq_true rfl) rfl dX5_bestScreen_54 (pBs (n := 1) [mdW G a (fla (scS x, scF x, scB x, scG x, scF x i29)) hi sl sv gg.1 gg.2.1 gg.2.2.1 gg.2.2.2.1 gg.2.2.2.2.1 gg.2.2.2.2.2.1 w tx cl hl tl sp rd] [0] [] rfl (by decide)) (kc' := 0) (ks' := 0) rfl rfl (rxV (ws' := fun (g_54 : Nat → Nat) => (bl [mdW G a (fla (scS x, scF x, scB x, scG x, scF x i29)) hi sl sv (rawF (scS x, scF x, scB x, scG x, scF x i29)) (opqF (scS x, scF x, scB x, scG x, scF x i29)) (kndF (scS x, scF x, scB x, scG x, scF x i29)) (tknF (scS x, scF x, scB x, scG x, scF x i29)) (cmpF (scS x, scF x, scB x, scG x, scF x i29)) g_54 w tx cl hl tl sp rd])) (fun g_54 => (pBs (n := 1) [mdW G a (fla (scS x, scF x, scB x, scG x, scF x i29)) hi sl sv (rawF (scS x, scF x, scB x, scG x, scF x i29)) (opqF (scS x, scF x, scB x, scG x, scF x i29)) (kndF (scS x, scF x, scB x, scG x, scF x i29)) (tknF (scS x, scF x, scB x, scG x, scF x i29)) (cmpF (scS x, scF x, scB x, scG x, scF x i29)) g_54 w tx cl hl tl sp rd] [0] [] rfl (by decide)).symm) (fun g_54 hf_54 => ?_))
      refine V.aload_n E dX5_bestScreen_57 rfl rfl ?_
      refine V.iconst (v := nI (0)) E dX5_bestScreen_58 (by decide) ?_
      refine V.callV (C := RX5) E (c_X5_ofKind G a (fla (scS x, scF x, scB x, scG x, scF x i29)) hi sl sv (rawF (scS x, scF x, scB x, scG x, scF x i29)) (opqF (scS x, scF x, scB x, scG x, scF x i29)) (kndF (scS x, scF x, scB x, scG x, scF x i29)) (tknF (scS x, scF x, scB x, scG x, scF x i29)) (cmpF (scS x, scF x, scB x, scG x, scF x i29)) g_54 w tx cl hl tl sp rd 0 (fun j _ => kndF_le _ j) (by decide)) (bl []) [] 0 5 rfl rfl rfl gX5_bestScreen_X5_ofKind rfl ⟨rfl, hd_X5_ofKind⟩ ⟨⟨Nat.le_of_ble_eq_true rfl, Nat.le_of_ble_eq_true rfl⟩, Nat.le_of_ble_eq_true rfl, Nat.le_of_ble_eq_true rfl⟩ rfl (Nat.le_of_ble_eq_true rfl) rfl dX5_bestScreen_59 (pBs (n := 1) [mdW G a (fla (scS x, scF x, scB x, scG x, scF x i29)) hi sl sv (rawF (scS x, scF x, scB x, scG x, scF x i29)) (opqF (scS x, scF x, scB x, scG x, scF x i29)) (kndF (scS x, scF x, scB x, scG x, scF x i29)) (tknF (scS x, scF x, scB x, scG x, scF x i29)) (cmpF (scS x, scF x, scB x, scG x, scF x i29)) g_54 w tx cl hl tl sp rd] [0] [] rfl (by decide)) (kc' := 0) (ks' := 0) rfl rfl (rwI (ws' := (bl [mdW G a (fla (scS x, scF x, scB x, scG x, scF x i29)) hi sl sv (rawF (scS x, scF x, scB x, scG x, scF x i29)) (opqF (scS x, scF x, scB x, scG x, scF x i29)) (kndF (scS x, scF x, scB x, scG x, scF x i29)) (tknF (scS x, scF x, scB x, scG x, scF x i29)) (cmpF (scS x, scF x, scB x, scG x, scF x i29)) g_54 w tx cl hl tl sp rd])) (pBs (n := 1) [mdW G a (fla (scS x, scF x, scB x, scG x, scF x i29)) hi sl sv (rawF (scS x, scF x, scB x, scG x, scF x i29)) (opqF (scS x, scF x, scB x, scG x, scF x i29)) (kndF (scS x, scF x, scB x, scG x, scF x i29)) (tknF (scS x, scF x, scB x, scG x, scF x i29)) (cmpF (scS x, scF x, scB x, scG x, scF x i29)) g_54 w tx cl hl tl sp rd] [0] [] rfl (by decide)).symm ?_)
      refine V.topN (b := clrN x i29) (by unfold clrN; rfl) ?_
      refine V.istore (lv' := [some (.ref (a 0)), some (.int (nI (w_))), some (.int (nI (scC x))), some (.int (nI ((bst x i29).1))), some (.int ((bst x i29).2)), some (.int (nI (i29))), some (.int (nI (clrN x i29)))]) E dX5_bestScreen_62 (Nat.le_of_ble_eq_true rfl) rfl rfl ?_
      refine V.iload E dX5_bestScreen_64 rfl ?_
      refine V.iload E dX5_bestScreen_66 rfl ?_
      refine V.icmp_le (tgt := 76) E dX5_bestScreen_68 (by decide) (fun q_68 => ?_) (fun q_68 => ?_)
      · refine V.iload_n E dX5_bestScreen_76 rfl rfl ?_
        refine V.istore_n (lv' := [some (.ref (a 0)), some (.int (nI (w_))), some (.int (nI (scC x))), some (.int (nI ((bst x i29).1))), some (.int ((bst x i29).2)), some (.int (nI (i29))), some (.int (nI (clrN x i29)))]) E dX5_bestScreen_77 rfl (Nat.le_of_ble_eq_true rfl) rfl rfl ?_
        refine V.iload E dX5_bestScreen_78 rfl ?_
        refine V.iload E dX5_bestScreen_80 rfl ?_
        refine V.icmp_le (tgt := 90) E dX5_bestScreen_82 (by decide) (fun q_82 => ?_) (fun q_82 => ?_)
        · refine V.iload E dX5_bestScreen_90 rfl ?_
          refine V.istore (lv' := [some (.ref (a 0)), some (.int (nI (w_))), some (.int (nI (scC x))), some (.int (nI ((bst x i29).1))), some (.int ((bst x i29).2)), some (.int (nI (i29))), some (.int (nI (clrN x i29)))]) E dX5_bestScreen_92 (Nat.le_of_ble_eq_true rfl) rfl rfl ?_
          refine V.iincN (lv' := [some (.ref (a 0)), some (.int (nI (w_))), some (.int (nI (scC x))), some (.int (nI ((bst x i29).1))), some (.int ((bst x i29).2)), some (.int (nI (i29 + 1))), some (.int (nI (clrN x i29)))]) E dX5_bestScreen_94 rfl (Nat.le_of_ble_eq_true rfl) rfl rfl ?_
          refine V.goto (tgt := 29) E dX5_bestScreen_97 (by decide) ?_
          refine V.drop (lv' := [some (.ref (a 0)), some (.int (nI (w_))), some (.int (nI (scC x))), some (.int (nI ((bst x i29).1))), some (.int ((bst x i29).2)), some (.int (nI (i29 + 1))), none]) [true, true, true, true, true, true, false] rfl ?_
          refine V.locN (b := (bst x (i29 + 1)).1) (lv' := [some (.ref (a 0)), some (.int (nI (w_))), some (.int (nI (scC x))), some (.int (nI ((bst x (i29 + 1)).1))), some (.int ((bst x i29).2)), some (.int (nI (i29 + 1))), none]) 3 (by rw [bst, if_pos q_68]) rfl rfl ?_
          refine V.loc (y := (bst x (i29 + 1)).2) (lv' := [some (.ref (a 0)), some (.int (nI (w_))), some (.int (nI (scC x))), some (.int (nI ((bst x (i29 + 1)).1))), some (.int ((bst x (i29 + 1)).2)), some (.int (nI (i29 + 1))), none]) 4 (by rw [bst, if_pos q_68]) rfl rfl ?_
          show V G A X rm_c_X5_bestScreen_ok (bl [mdW G a (fla (scS x, scF x, scB x, scG x, ((rawF (scS x, scF x, scB x, scG x, scF x i29), opqF (scS x, scF x, scB x, scG x, scF x i29), kndF (scS x, scF x, scB x, scG x, scF x i29), tknF (scS x, scF x, scB x, scG x, scF x i29), cmpF (scS x, scF x, scB x, scG x, scF x i29), g_54, scF x i29)).2.2.2.2.2.2)) hi sl sv (((rawF (scS x, scF x, scB x, scG x, scF x i29), opqF (scS x, scF x, scB x, scG x, scF x i29), kndF (scS x, scF x, scB x, scG x, scF x i29), tknF (scS x, scF x, scB x, scG x, scF x i29), cmpF (scS x, scF x, scB x, scG x, scF x i29), g_54, scF x i29)).1) (((rawF (scS x, scF x, scB x, scG x, scF x i29), opqF (scS x, scF x, scB x, scG x, scF x i29), kndF (scS x, scF x, scB x, scG x, scF x i29), tknF (scS x, scF x, scB x, scG x, scF x i29), cmpF (scS x, scF x, scB x, scG x, scF x i29), g_54, scF x i29)).2.1) (((rawF (scS x, scF x, scB x, scG x, scF x i29), opqF (scS x, scF x, scB x, scG x, scF x i29), kndF (scS x, scF x, scB x, scG x, scF x i29), tknF (scS x, scF x, scB x, scG x, scF x i29), cmpF (scS x, scF x, scB x, scG x, scF x i29), g_54, scF x i29)).2.2.1) (((rawF (scS x, scF x, scB x, scG x, scF x i29), opqF (scS x, scF x, scB x, scG x, scF x i29), kndF (scS x, scF x, scB x, scG x, scF x i29), tknF (scS x, scF x, scB x, scG x, scF x i29), cmpF (scS x, scF x, scB x, scG x, scF x i29), g_54, scF x i29)).2.2.2.1) (((rawF (scS x, scF x, scB x, scG x, scF x i29), opqF (scS x, scF x, scB x, scG x, scF x i29), kndF (scS x, scF x, scB x, scG x, scF x i29), tknF (scS x, scF x, scB x, scG x, scF x i29), cmpF (scS x, scF x, scB x, scG x, scF x i29), g_54, scF x i29)).2.2.2.2.1) (((rawF (scS x, scF x, scB x, scG x, scF x i29), opqF (scS x, scF x, scB x, scG x, scF x i29), kndF (scS x, scF x, scB x, scG x, scF x i29), tknF (scS x, scF x, scB x, scG x, scF x i29), cmpF (scS x, scF x, scB x, scG x, scF x i29), g_54, scF x i29)).2.2.2.2.2.1) w tx cl hl tl sp rd]) 0 0 29 [some (.ref (a 0)), some (.int (nI (w_))), some (.int (nI (scC x))), some (.int (nI ((bst x (i29 + 1)).1))), some (.int ((bst x (i29 + 1)).2)), some (.int (nI (i29 + 1))), none] []
          exact ih_29 (by omega) ((rawF (scS x, scF x, scB x, scG x, scF x i29), opqF (scS x, scF x, scB x, scG x, scF x i29), kndF (scS x, scF x, scB x, scG x, scF x i29), tknF (scS x, scF x, scB x, scG x, scF x i29), cmpF (scS x, scF x, scB x, scG x, scF x i29), g_54, scF x i29)) (hx.f _ (by omega))
        · exact absurd q_68 q_82
      · refine V.iload E dX5_bestScreen_71 rfl ?_
        refine V.goto (tgt := 77) E dX5_bestScreen_73 (by decide) ?_
        refine V.istore_n (lv' := [some (.ref (a 0)), some (.int (nI (w_))), some (.int (nI (scC x))), some (.int (nI (i29))), some (.int ((bst x i29).2)), some (.int (nI (i29))), some (.int (nI (clrN x i29)))]) E dX5_bestScreen_77 rfl (Nat.le_of_ble_eq_true rfl) rfl rfl ?_
        refine V.iload E dX5_bestScreen_78 rfl ?_
        refine V.iload E dX5_bestScreen_80 rfl ?_
        refine V.icmp_le (tgt := 90) E dX5_bestScreen_82 (by decide) (fun q_82 => ?_) (fun q_82 => ?_)
        · exact absurd q_82 q_68
        · refine V.iload E dX5_bestScreen_85 rfl ?_
          refine V.goto (tgt := 92) E dX5_bestScreen_87 (by decide) ?_
          refine V.istore (lv' := [some (.ref (a 0)), some (.int (nI (w_))), some (.int (nI (scC x))), some (.int (nI (i29))), some (.int (nI (clrN x i29))), some (.int (nI (i29))), some (.int (nI (clrN x i29)))]) E dX5_bestScreen_92 (Nat.le_of_ble_eq_true rfl) rfl rfl ?_
          refine V.iincN (lv' := [some (.ref (a 0)), some (.int (nI (w_))), some (.int (nI (scC x))), some (.int (nI (i29))), some (.int (nI (clrN x i29))), some (.int (nI (i29 + 1))), some (.int (nI (clrN x i29)))]) E dX5_bestScreen_94 rfl (Nat.le_of_ble_eq_true rfl) rfl rfl ?_
          refine V.goto (tgt := 29) E dX5_bestScreen_97 (by decide) ?_
          refine V.drop (lv' := [some (.ref (a 0)), some (.int (nI (w_))), some (.int (nI (scC x))), some (.int (nI (i29))), some (.int (nI (clrN x i29))), some (.int (nI (i29 + 1))), none]) [true, true, true, true, true, true, false] rfl ?_
          refine V.locN (b := (bst x (i29 + 1)).1) (lv' := [some (.ref (a 0)), some (.int (nI (w_))), some (.int (nI (scC x))), some (.int (nI ((bst x (i29 + 1)).1))), some (.int (nI (clrN x i29))), some (.int (nI (i29 + 1))), none]) 3 (by rw [bst, if_neg q_68]) rfl rfl ?_
          refine V.loc (y := (bst x (i29 + 1)).2) (lv' := [some (.ref (a 0)), some (.int (nI (w_))), some (.int (nI (scC x))), some (.int (nI ((bst x (i29 + 1)).1))), some (.int ((bst x (i29 + 1)).2)), some (.int (nI (i29 + 1))), none]) 4 (by rw [bst, if_neg q_68]) rfl rfl ?_
          show V G A X rm_c_X5_bestScreen_ok (bl [mdW G a (fla (scS x, scF x, scB x, scG x, ((rawF (scS x, scF x, scB x, scG x, scF x i29), opqF (scS x, scF x, scB x, scG x, scF x i29), kndF (scS x, scF x, scB x, scG x, scF x i29), tknF (scS x, scF x, scB x, scG x, scF x i29), cmpF (scS x, scF x, scB x, scG x, scF x i29), g_54, scF x i29)).2.2.2.2.2.2)) hi sl sv (((rawF (scS x, scF x, scB x, scG x, scF x i29), opqF (scS x, scF x, scB x, scG x, scF x i29), kndF (scS x, scF x, scB x, scG x, scF x i29), tknF (scS x, scF x, scB x, scG x, scF x i29), cmpF (scS x, scF x, scB x, scG x, scF x i29), g_54, scF x i29)).1) (((rawF (scS x, scF x, scB x, scG x, scF x i29), opqF (scS x, scF x, scB x, scG x, scF x i29), kndF (scS x, scF x, scB x, scG x, scF x i29), tknF (scS x, scF x, scB x, scG x, scF x i29), cmpF (scS x, scF x, scB x, scG x, scF x i29), g_54, scF x i29)).2.1) (((rawF (scS x, scF x, scB x, scG x, scF x i29), opqF (scS x, scF x, scB x, scG x, scF x i29), kndF (scS x, scF x, scB x, scG x, scF x i29), tknF (scS x, scF x, scB x, scG x, scF x i29), cmpF (scS x, scF x, scB x, scG x, scF x i29), g_54, scF x i29)).2.2.1) (((rawF (scS x, scF x, scB x, scG x, scF x i29), opqF (scS x, scF x, scB x, scG x, scF x i29), kndF (scS x, scF x, scB x, scG x, scF x i29), tknF (scS x, scF x, scB x, scG x, scF x i29), cmpF (scS x, scF x, scB x, scG x, scF x i29), g_54, scF x i29)).2.2.2.1) (((rawF (scS x, scF x, scB x, scG x, scF x i29), opqF (scS x, scF x, scB x, scG x, scF x i29), kndF (scS x, scF x, scB x, scG x, scF x i29), tknF (scS x, scF x, scB x, scG x, scF x i29), cmpF (scS x, scF x, scB x, scG x, scF x i29), g_54, scF x i29)).2.2.2.2.1) (((rawF (scS x, scF x, scB x, scG x, scF x i29), opqF (scS x, scF x, scB x, scG x, scF x i29), kndF (scS x, scF x, scB x, scG x, scF x i29), tknF (scS x, scF x, scB x, scG x, scF x i29), cmpF (scS x, scF x, scB x, scG x, scF x i29), g_54, scF x i29)).2.2.2.2.2.1) w tx cl hl tl sp rd]) 0 0 29 [some (.ref (a 0)), some (.int (nI (w_))), some (.int (nI (scC x))), some (.int (nI ((bst x (i29 + 1)).1))), some (.int ((bst x (i29 + 1)).2)), some (.int (nI (i29 + 1))), none] []
          exact ih_29 (by omega) ((rawF (scS x, scF x, scB x, scG x, scF x i29), opqF (scS x, scF x, scB x, scG x, scF x i29), kndF (scS x, scF x, scB x, scG x, scF x i29), tknF (scS x, scF x, scB x, scG x, scF x i29), cmpF (scS x, scF x, scB x, scG x, scF x i29), g_54, scF x i29)) (hx.f _ (by omega))
  · exact absurd ((okI_n hw (by omega)).symm.trans q_7) (by decide)
abbrev rm_c_X5_ifSet_bad : Room := { frames := 2, cells := 0, slots := 0, locals := 46 }
theorem hd_X5_ifSet : yX5_ifSet.cls ≠ "java/lang/invoke/MethodHandle" ∧ yX5_ifSet.cls ≠ "java/lang/invoke/VarHandle" ∧ (parseMethodDescriptor yX5_ifSet.desc).map (fun d => d.parameters.length) = some 2 := by decide +kernel
set_option maxRecDepth 100000 in
set_option maxHeartbeats 8000000 in
theorem c_X5_ifSet_bad (G : VC) (a : Nat → Nat) (hi : Nat → Nat) (sl : Nat → Nat) (sv : Nat → Nat) (r : Nat → Nat) (o : Nat → Nat) (k : Nat → Nat) (t : Nat → Nat) (m : Nat → Nat) (e : Nat → Nat) (w : Nat → Nat) (tx : Nat → Nat) (cl : Nat → Int32) (hl : Nat) (tl : Nat) (sp : Nat) (rd : Nat) (x : SC) (k_ : Int32) (v_ : Int32) (hb : okSet k_ v_ = false) : Ctr yX5_ifSet wsX5_ifSet rm_c_X5_ifSet_bad G [.ref (a 0), .int (k_), .int (v_)] (bl [mdW G a (fla x) hi sl sv r o k t m e w tx cl hl tl sp rd]) (fun v9_ u9_ => u9_ = (bl [mdW G a (fla x) hi sl sv r o k t m e w tx cl hl tl sp rd]) ∧ v9_ = some (.int ((-2 : Int32)))) := by
  refine Ctr.int (cc := cX5_ifSet) (maxL := 6) (ret := (some .int)) (lv0 := [some (.ref (a 0)), some (.int (k_)), some (.int (v_)), none, none, none]) (by decide) rfl rfl rfl (Nat.le_of_ble_eq_true rfl) rfl (fun A X E hend => ?_)
  refine V.iload_n E dX5_ifSet_0 rfl rfl ?_
  refine V.iload_n E dX5_ifSet_1 rfl rfl ?_
  refine V.callS E (c_X5_isSetting G k_ v_ ) (bl [mdW G a (fla x) hi sl sv r o k t m e w tx cl hl tl sp rd]) [] gX5_ifSet_X5_isSetting rfl hd_X5_isSetting ⟨⟨Nat.le_of_ble_eq_true rfl, Nat.le_of_ble_eq_true rfl⟩, Nat.le_of_ble_eq_true rfl, Nat.le_of_ble_eq_true rfl⟩ rfl (Nat.le_of_ble_eq_true rfl) rfl dX5_ifSet_2 (List.Perm.refl _) (kc' := 0) (ks' := 0) rfl rfl (rwI (ws' := (bl [mdW G a (fla x) hi sl sv r o k t m e w tx cl hl tl sp rd])) (List.Perm.refl _) ?_)
  refine V.if_neB (tgt := 11) E dX5_ifSet_5 (by decide) (fun q_5 => ?_) (fun q_5 => ?_)
  · exact absurd (hb.symm.trans q_5) (by decide)
  · refine V.bipush (v := (-2 : Int32)) E dX5_ifSet_8 (by decide) ?_
    exact hend _ _ _ _ dX5_ifSet_10 (nrI _) ⟨rfl, rfl⟩
abbrev rm_c_X5_ifSet_un : Room := { frames := 2, cells := 0, slots := 0, locals := 46 }
set_option maxRecDepth 100000 in
set_option maxHeartbeats 8000000 in
theorem c_X5_ifSet_un (G : VC) (a : Nat → Nat) (hi : Nat → Nat) (sl : Nat → Nat) (sv : Nat → Nat) (r : Nat → Nat) (o : Nat → Nat) (k : Nat → Nat) (t : Nat → Nat) (m : Nat → Nat) (e : Nat → Nat) (w : Nat → Nat) (tx : Nat → Nat) (cl : Nat → Int32) (hl : Nat) (tl : Nat) (sp : Nat) (rd : Nat) (x : SC) (k_ : Nat) (v_ : Nat) (hx : SInv x) (hk : k_ < 6) (hv_ : v_ ≤ hv k_) (ho : ordN x k_ v_ = false) : Ctr yX5_ifSet wsX5_ifSet rm_c_X5_ifSet_un G [.ref (a 0), .int (nI (k_)), .int (nI (v_))] (bl [mdW G a (fla x) hi sl sv r o k t m e w tx cl hl tl sp rd]) (fun v9_ u9_ => u9_ = (bl [mdW G a (fla x) hi sl sv r o k t m e w tx cl hl tl sp rd]) ∧ v9_ = some (.int ((-5 : Int32)))) := by
  refine Ctr.int (cc := cX5_ifSet) (maxL := 6) (ret := (some .int)) (lv0 := [some (.ref (a 0)), some (.int (nI (k_))), some (.int (nI (v_))), none, none, none]) (by decide) rfl rfl rfl (Nat.le_of_ble_eq_true rfl) rfl (fun A X E hend => ?_)
  refine V.iload_n E dX5_ifSet_0 rfl rfl ?_
  refine V.iload_n E dX5_ifSet_1 rfl rfl ?_
  refine V.callS E (c_X5_isSetting G (nI (k_)) (nI (v_)) ) (bl [mdW G a (fla x) hi sl sv r o k t m e w tx cl hl tl sp rd]) [] gX5_ifSet_X5_isSetting rfl hd_X5_isSetting ⟨⟨Nat.le_of_ble_eq_true rfl, Nat.le_of_ble_eq_true rfl⟩, Nat.le_of_ble_eq_true rfl, Nat.le_of_ble_eq_true rfl⟩ rfl (Nat.le_of_ble_eq_true rfl) rfl dX5_ifSet_2 (List.Perm.refl _) (kc' := 0) (ks' := 0) rfl rfl (rwI (ws' := (bl [mdW G a (fla x) hi sl sv r o k t m e w tx cl hl tl sp rd])) (List.Perm.refl _) ?_)
  refine V.if_neB (tgt := 11) E dX5_ifSet_5 (by decide) (fun q_5 => ?_) (fun q_5 => ?_)
  · refine V.aload_n E dX5_ifSet_11 rfl rfl ?_
    refine V.iload_n E dX5_ifSet_12 rfl rfl ?_
    refine V.iload_n E dX5_ifSet_13 rfl rfl ?_
    refine V.callV (C := RX5) E (c_X5_isOrdered G a hi sl sv r o k t m e w tx cl hl tl sp rd x k_ v_ (hx) (hk) (Nat.le_trans hv_ ((by decide : ∀ j, j < 6 → hv j ≤ 45) _ hk))) (bl []) [] 0 5 rfl rfl rfl gX5_ifSet_X5_isOrdered rfl ⟨rfl, hd_X5_isOrdered⟩ ⟨⟨Nat.le_of_ble_eq_true rfl, Nat.le_of_ble_eq_true rfl⟩, Nat.le_of_ble_eq_true rfl, Nat.le_of_ble_eq_true rfl⟩ rfl (Nat.le_of_ble_eq_true rfl) rfl dX5_ifSet_14 (pBs (n := 1) [mdW G a (fla x) hi sl sv r o k t m e w tx cl hl tl sp rd] [0] [] rfl (by decide)) (kc' := 0) (ks' := 0) rfl rfl (rwI (ws' := (bl [mdW G a (fla x) hi sl sv r o k t m e w tx cl hl tl sp rd])) (pBs (n := 1) [mdW G a (fla x) hi sl sv r o k t m e w tx cl hl tl sp rd] [0] [] rfl (by decide)).symm ?_)
    refine V.if_neB (tgt := 23) E dX5_ifSet_17 (by decide) (fun q_17 => ?_) (fun q_17 => ?_)
    · exact absurd (ho.symm.trans q_17) (by decide)
    · refine V.bipush (v := (-5 : Int32)) E dX5_ifSet_20 (by decide) ?_
      exact hend _ _ _ _ dX5_ifSet_22 (nrI _) ⟨rfl, rfl⟩
  · exact absurd ((okSet_n hk hv_).symm.trans q_5) (by decide)
abbrev rm_c_X5_ifSet_ok : Room := { frames := 5, cells := 0, slots := 0, locals := 116 }
set_option maxRecDepth 100000 in
set_option maxHeartbeats 8000000 in
theorem c_X5_ifSet_ok (G : VC) (a : Nat → Nat) (hi : Nat → Nat) (sl : Nat → Nat) (sv : Nat → Nat) (r : Nat → Nat) (o : Nat → Nat) (k : Nat → Nat) (t : Nat → Nat) (m : Nat → Nat) (e : Nat → Nat) (w : Nat → Nat) (tx : Nat → Nat) (cl : Nat → Int32) (hl : Nat) (tl : Nat) (sp : Nat) (rd : Nat) (x : SC) (k_ : Nat) (v_ : Nat) (hx : SInv x) (hk : k_ < 6) (hv_ : v_ ≤ hv k_) (ho : ordN x k_ v_ = true) : Ctr yX5_ifSet wsX5_ifSet rm_c_X5_ifSet_ok G [.ref (a 0), .int (nI (k_)), .int (nI (v_))] (bl [mdW G a (fla x) hi sl sv r o k t m e w tx cl hl tl sp rd]) (fun v9_ u9_ => ∃ ge : Nat → Nat, u9_ = (bl [mdW G a (fla x) hi sl sv (rawF ((upN (scS x) k_ v_, x.2))) (opqF ((upN (scS x) k_ v_, x.2))) (kndF ((upN (scS x) k_ v_, x.2))) (tknF ((upN (scS x) k_ v_, x.2))) (cmpF ((upN (scS x) k_ v_, x.2))) ge (cmpF x) tx cl hl tl sp rd]) ∧ v9_ = some (.int (nI (sumN 48 (fun j => bN (!decide (cmpF x j = cmpF (upN (scS x) k_ v_, x.2) j)))))) ∧ (True)) := by
  refine Ctr.int (cc := cX5_ifSet) (maxL := 6) (ret := (some .int)) (lv0 := [some (.ref (a 0)), some (.int (nI (k_))), some (.int (nI (v_))), none, none, none]) (by decide) rfl rfl rfl (Nat.le_of_ble_eq_true rfl) rfl (fun A X E hend => ?_)
  refine V.iload_n E dX5_ifSet_0 rfl rfl ?_
  refine V.iload_n E dX5_ifSet_1 rfl rfl ?_
  refine V.callS E (c_X5_isSetting G (nI (k_)) (nI (v_)) ) (bl [mdW G a (fla x) hi sl sv r o k t m e w tx cl hl tl sp rd]) [] gX5_ifSet_X5_isSetting rfl hd_X5_isSetting ⟨⟨Nat.le_of_ble_eq_true rfl, Nat.le_of_ble_eq_true rfl⟩, Nat.le_of_ble_eq_true rfl, Nat.le_of_ble_eq_true rfl⟩ rfl (Nat.le_of_ble_eq_true rfl) rfl dX5_ifSet_2 (List.Perm.refl _) (kc' := 0) (ks' := 0) rfl rfl (rwI (ws' := (bl [mdW G a (fla x) hi sl sv r o k t m e w tx cl hl tl sp rd])) (List.Perm.refl _) ?_)
  refine V.if_neB (tgt := 11) E dX5_ifSet_5 (by decide) (fun q_5 => ?_) (fun q_5 => ?_)
  · refine V.aload_n E dX5_ifSet_11 rfl rfl ?_
    refine V.iload_n E dX5_ifSet_12 rfl rfl ?_
    refine V.iload_n E dX5_ifSet_13 rfl rfl ?_
    refine V.callV (C := RX5) E (c_X5_isOrdered G a hi sl sv r o k t m e w tx cl hl tl sp rd x k_ v_ (hx) (hk) (Nat.le_trans hv_ ((by decide : ∀ j, j < 6 → hv j ≤ 45) _ hk))) (bl []) [] 0 5 rfl rfl rfl gX5_ifSet_X5_isOrdered rfl ⟨rfl, hd_X5_isOrdered⟩ ⟨⟨Nat.le_of_ble_eq_true rfl, Nat.le_of_ble_eq_true rfl⟩, Nat.le_of_ble_eq_true rfl, Nat.le_of_ble_eq_true rfl⟩ rfl (Nat.le_of_ble_eq_true rfl) rfl dX5_ifSet_14 (pBs (n := 1) [mdW G a (fla x) hi sl sv r o k t m e w tx cl hl tl sp rd] [0] [] rfl (by decide)) (kc' := 0) (ks' := 0) rfl rfl (rwI (ws' := (bl [mdW G a (fla x) hi sl sv r o k t m e w tx cl hl tl sp rd])) (pBs (n := 1) [mdW G a (fla x) hi sl sv r o k t m e w tx cl hl tl sp rd] [0] [] rfl (by decide)).symm ?_)
    refine V.if_neB (tgt := 23) E dX5_ifSet_17 (by decide) (fun q_17 => ?_) (fun q_17 => ?_)
    · refine V.aload_n E dX5_ifSet_23 rfl rfl ?_
      refine V.callV (C := RX5) E (c_X5_works G a hi sl sv r o k t m e w tx cl hl tl sp rd x (hx)) (bl []) [] 0 5 rfl rfl rfl gX5_ifSet_X5_works rfl ⟨rfl, hd_X5_works⟩ ⟨⟨Nat.le_of_ble_eq_true rfl, Nat.le_of_ble_eq_true rfl⟩, Nat.le_of_ble_eq_true rfl, Nat.le_of_ble_eq_true rfl⟩ rfl (Nat.le_of_ble_eq_true rfl) rfl dX5_ifSet_24 (pBs (n := 1) [mdW G a (fla x) hi sl sv r o k t m e w tx cl hl tl sp rd] [0] [] rfl (by decide)) (kc' := 0) (ks' := 0) rfl rfl (rxV (ws' := fun (g_24 : Nat → Nat) => (bl [mdW G a (fla x) hi sl sv (rawF x) (opqF x) (kndF x) (tknF x) (cmpF x) g_24 w tx cl hl tl sp rd])) (fun g_24 => (pBs (n := 1) [mdW G a (fla x) hi sl sv (rawF x) (opqF x) (kndF x) (tknF x) (cmpF x) g_24 w tx cl hl tl sp rd] [0] [] rfl (by decide)).symm) (fun g_24 hf_24 => ?_))
      refine V.iconst (v := nI (0)) E dX5_ifSet_27 (by decide) ?_
      refine V.istore_n (lv' := [some (.ref (a 0)), some (.int (nI (k_))), some (.int (nI (v_))), some (.int (nI (0))), none, none]) E dX5_ifSet_28 rfl (Nat.le_of_ble_eq_true rfl) rfl rfl ?_
      refine V.arr (f' := nA (mxn 0 (cmpF x) w)) (ws' := (bl [mdW G a (fla x) hi sl sv (rawF x) (opqF x) (kndF x) (tknF x) (cmpF x) g_24 (mxn 0 (cmpF x) w) tx cl hl tl sp rd])) 11 rfl (fun j _ => mxn_0 j) rfl ?_
      refine loopN (P := fun i29 => V G A X rm_c_X5_ifSet_ok (bl [mdW G a (fla x) hi sl sv (rawF x) (opqF x) (kndF x) (tknF x) (cmpF x) g_24 (mxn i29 (cmpF x) w) tx cl hl tl sp rd]) 0 0 29 [some (.ref (a 0)), some (.int (nI (k_))), some (.int (nI (v_))), some (.int (nI (i29))), none, none] []) 48 (fun i29 hi_29 ih_29 => ?_) 0 (Nat.zero_le _)
      refine V.iload_n E dX5_ifSet_29 rfl rfl ?_
      refine V.bipush (v := nI (48)) E dX5_ifSet_30 (by decide) ?_
      refine V.icmp_geN (tgt := 53) E (by omega) (by omega) dX5_ifSet_32 (by decide) (fun q_32 => ?_) (fun q_32 => ?_)
      · obtain rfl : i29 = 48 := by omega
        refine V.arr (f' := nA (cmpF x)) (ws' := (bl [mdW G a (fla x) hi sl sv (rawF x) (opqF x) (kndF x) (tknF x) (cmpF x) g_24 (cmpF x) tx cl hl tl sp rd])) 11 rfl (fun j hj => mxn_n j hj) rfl ?_
        refine V.aload_n E dX5_ifSet_53 rfl rfl ?_
        refine V.getf (C := RX5) (T := TX5) (N := 17) (ref := "GlassSpillModel") E 0 5 0 (by decide +kernel) rfl rfl (by decide) (by decide +kernel) rfl rfl dX5_ifSet_54 ?_
        refine V.iload_n E dX5_ifSet_57 rfl rfl ?_
        refine V.ialdN (v := nI (scS x k_)) E 1 rfl (by omega) (by decide) (congrArg nI (fla_S _ hk)) dX5_ifSet_58 ?_
        refine V.istore_n (lv' := [some (.ref (a 0)), some (.int (nI (k_))), some (.int (nI (v_))), some (.int (nI (scS x k_))), none, none]) E dX5_ifSet_59 rfl (Nat.le_of_ble_eq_true rfl) rfl rfl ?_
        refine V.aload_n E dX5_ifSet_60 rfl rfl ?_
        refine V.getf (C := RX5) (T := TX5) (N := 17) (ref := "GlassSpillModel") E 0 5 0 (by decide +kernel) rfl rfl (by decide) (by decide +kernel) rfl rfl dX5_ifSet_61 ?_
        refine V.iload_n E dX5_ifSet_64 rfl rfl ?_
        refine V.iload_n E dX5_ifSet_65 rfl rfl ?_
        refine V.iastN (f' := nA (fla (upN (scS x) k_ v_, x.2))) (ws' := (bl [mdW G a (fla (upN (scS x) k_ v_, x.2)) hi sl sv (rawF x) (opqF x) (kndF x) (tknF x) (cmpF x) g_24 (cmpF x) tx cl hl tl sp rd])) E 1 rfl (by omega) (by decide) dX5_ifSet_66 (fun j _ => fla_uS x hk j) rfl ?_
        refine V.aload_n E dX5_ifSet_67 rfl rfl ?_
        refine V.callV (C := RX5) E (c_X5_works G a hi sl sv (rawF x) (opqF x) (kndF x) (tknF x) (cmpF x) g_24 (cmpF x) tx cl hl tl sp rd (upN (scS x) k_ v_, x.2) (hx.set hv_ ho)) (bl []) [] 0 5 rfl rfl rfl gX5_ifSet_X5_works rfl ⟨rfl, hd_X5_works⟩ ⟨⟨Nat.le_of_ble_eq_true rfl, Nat.le_of_ble_eq_true rfl⟩, Nat.le_of_ble_eq_true rfl, Nat.le_of_ble_eq_true rfl⟩ rfl (Nat.le_of_ble_eq_true rfl) rfl dX5_ifSet_68 (pBs (n := 1) [mdW G a (fla (upN (scS x) k_ v_, x.2)) hi sl sv (rawF x) (opqF x) (kndF x) (tknF x) (cmpF x) g_24 (cmpF x) tx cl hl tl sp rd] [0] [] rfl (by decide)) (kc' := 0) (ks' := 0) rfl rfl (rxV (ws' := fun (g_68 : Nat → Nat) => (bl [mdW G a (fla (upN (scS x) k_ v_, x.2)) hi sl sv (rawF (upN (scS x) k_ v_, x.2)) (opqF (upN (scS x) k_ v_, x.2)) (kndF (upN (scS x) k_ v_, x.2)) (tknF (upN (scS x) k_ v_, x.2)) (cmpF (upN (scS x) k_ v_, x.2)) g_68 (cmpF x) tx cl hl tl sp rd])) (fun g_68 => (pBs (n := 1) [mdW G a (fla (upN (scS x) k_ v_, x.2)) hi sl sv (rawF (upN (scS x) k_ v_, x.2)) (opqF (upN (scS x) k_ v_, x.2)) (kndF (upN (scS x) k_ v_, x.2)) (tknF (upN (scS x) k_ v_, x.2)) (cmpF (upN (scS x) k_ v_, x.2)) g_68 (cmpF x) tx cl hl tl sp rd] [0] [] rfl (by decide)).symm) (fun g_68 hf_68 => ?_))
        refine V.aload_n E dX5_ifSet_71 rfl rfl ?_
        refine V.getf (C := RX5) (T := TX5) (N := 17) (ref := "GlassSpillModel") E 0 5 0 (by decide +kernel) rfl rfl (by decide) (by decide +kernel) rfl rfl dX5_ifSet_72 ?_
        refine V.iload_n E dX5_ifSet_75 rfl rfl ?_
        refine V.iload_n E dX5_ifSet_76 rfl rfl ?_
        refine V.iastN (f' := nA (fla x)) (ws' := (bl [mdW G a (fla x) hi sl sv (rawF (upN (scS x) k_ v_, x.2)) (opqF (upN (scS x) k_ v_, x.2)) (kndF (upN (scS x) k_ v_, x.2)) (tknF (upN (scS x) k_ v_, x.2)) (cmpF (upN (scS x) k_ v_, x.2)) g_68 (cmpF x) tx cl hl tl sp rd])) E 1 rfl (by omega) (by decide) dX5_ifSet_77 (fun j _ => fla_bk x hk j) rfl ?_
        refine V.iconst (v := nI (0)) E dX5_ifSet_78 (by decide) ?_
        refine V.istore (lv' := [some (.ref (a 0)), some (.int (nI (k_))), some (.int (nI (v_))), some (.int (nI (scS x k_))), some (.int (nI (0))), none]) E dX5_ifSet_79 (Nat.le_of_ble_eq_true rfl) rfl rfl ?_
        refine V.iconst (v := nI (0)) E dX5_ifSet_81 (by decide) ?_
        refine V.istore (lv' := [some (.ref (a 0)), some (.int (nI (k_))), some (.int (nI (v_))), some (.int (nI (scS x k_))), some (.int (nI (0))), some (.int (nI (0)))]) E dX5_ifSet_82 (Nat.le_of_ble_eq_true rfl) rfl rfl ?_
        refine V.drop (lv' := [some (.ref (a 0)), some (.int (nI (k_))), some (.int (nI (v_))), none, some (.int (nI (0))), some (.int (nI (0)))]) [true, true, true, false, true, true] rfl ?_
        refine V.locN (b := sumN 0 (fun j => bN (!decide (cmpF x j = cmpF (upN (scS x) k_ v_, x.2) j)))) (lv' := [some (.ref (a 0)), some (.int (nI (k_))), some (.int (nI (v_))), none, some (.int (nI (sumN 0 (fun j => bN (!decide (cmpF x j = cmpF (upN (scS x) k_ v_, x.2) j)))))), some (.int (nI (0)))]) 4 (rfl) rfl rfl ?_
        refine loopN (P := fun i84 => V G A X rm_c_X5_ifSet_ok (bl [mdW G a (fla x) hi sl sv (rawF (upN (scS x) k_ v_, x.2)) (opqF (upN (scS x) k_ v_, x.2)) (kndF (upN (scS x) k_ v_, x.2)) (tknF (upN (scS x) k_ v_, x.2)) (cmpF (upN (scS x) k_ v_, x.2)) g_68 (cmpF x) tx cl hl tl sp rd]) 0 0 84 [some (.ref (a 0)), some (.int (nI (k_))), some (.int (nI (v_))), none, some (.int (nI (sumN i84 (fun j => bN (!decide (cmpF x j = cmpF (upN (scS x) k_ v_, x.2) j)))))), some (.int (nI (i84)))] []) 48 (fun i84 hi_84 ih_84 => ?_) 0 (Nat.zero_le _)
        refine V.iload E dX5_ifSet_84 rfl ?_
        refine V.bipush (v := nI (48)) E dX5_ifSet_86 (by decide) ?_
        refine V.icmp_geN (tgt := 124) E (by omega) (by omega) dX5_ifSet_88 (by decide) (fun q_88 => ?_) (fun q_88 => ?_)
        · obtain rfl : i84 = 48 := by omega
          refine V.iload E dX5_ifSet_124 rfl ?_
          exact hend _ _ _ _ dX5_ifSet_126 (nrI _) ⟨g_68, rfl, rfl, trivial⟩
        · refine V.iload E dX5_ifSet_91 rfl ?_
          refine V.aload_n E dX5_ifSet_93 rfl rfl ?_
          refine V.getf (C := RX5) (T := TX5) (N := 17) (ref := "GlassSpillModel") E 0 5 11 (by decide +kernel) rfl rfl (by decide) (by decide +kernel) rfl rfl dX5_ifSet_94 ?_
          refine V.iload E dX5_ifSet_97 rfl ?_
          refine V.ialdN (v := nI ((cmpF x) i84)) E 11 rfl (by omega) (by decide) (rfl) dX5_ifSet_99 ?_
          refine V.aload_n E dX5_ifSet_100 rfl rfl ?_
          refine V.getf (C := RX5) (T := TX5) (N := 17) (ref := "GlassSpillModel") E 0 5 9 (by decide +kernel) rfl rfl (by decide) (by decide +kernel) rfl rfl dX5_ifSet_101 ?_
          refine V.iload E dX5_ifSet_104 rfl ?_
          refine V.ialdN (v := nI ((cmpF (upN (scS x) k_ v_, x.2)) i84)) E 9 rfl (by omega) (by decide) (rfl) dX5_ifSet_106 ?_
          refine V.icmp_neN (tgt := 114) E (Nat.lt_trans (cmpF_lt x _) (by decide)) (Nat.lt_trans (cmpF_lt _ _) (by decide)) dX5_ifSet_107 (by decide) (fun q_107 => ?_) (fun q_107 => ?_)
          · refine V.iconst (v := nI (1)) E dX5_ifSet_114 (by decide) ?_
            refine V.iaddN E  dX5_ifSet_115 ?_
            refine V.istore (lv' := [some (.ref (a 0)), some (.int (nI (k_))), some (.int (nI (v_))), none, some (.int (nI ((sumN i84 (fun j => bN (!decide (cmpF x j = cmpF (upN (scS x) k_ v_, x.2) j)))) + 1))), some (.int (nI (i84)))]) E dX5_ifSet_116 (Nat.le_of_ble_eq_true rfl) rfl rfl ?_
            refine V.iincN (lv' := [some (.ref (a 0)), some (.int (nI (k_))), some (.int (nI (v_))), none, some (.int (nI ((sumN i84 (fun j => bN (!decide (cmpF x j = cmpF (upN (scS x) k_ v_, x.2) j)))) + 1))), some (.int (nI (i84 + 1)))]) E dX5_ifSet_118 rfl (Nat.le_of_ble_eq_true rfl) rfl rfl ?_
            refine V.goto (tgt := 84) E dX5_ifSet_121 (by decide) ?_
            refine V.locN (b := sumN (i84 + 1) (fun j => bN (!decide (cmpF x j = cmpF (upN (scS x) k_ v_, x.2) j)))) (lv' := [some (.ref (a 0)), some (.int (nI (k_))), some (.int (nI (v_))), none, some (.int (nI (sumN (i84 + 1) (fun j => bN (!decide (cmpF x j = cmpF (upN (scS x) k_ v_, x.2) j)))))), some (.int (nI (i84 + 1)))]) 4 (by rw [sumN]; show _ = _ + bN (!decide (cmpF x i84 = cmpF (upN (scS x) k_ v_, x.2) i84)); simp [bN, q_107]) rfl rfl ?_
            exact ih_84 (by omega)
          · refine V.iconst (v := nI (0)) E dX5_ifSet_110 (by decide) ?_
            refine V.goto (tgt := 115) E dX5_ifSet_111 (by decide) ?_
            refine V.iaddN E  dX5_ifSet_115 ?_
            refine V.istore (lv' := [some (.ref (a 0)), some (.int (nI (k_))), some (.int (nI (v_))), none, some (.int (nI ((sumN i84 (fun j => bN (!decide (cmpF x j = cmpF (upN (scS x) k_ v_, x.2) j)))) + 0))), some (.int (nI (i84)))]) E dX5_ifSet_116 (Nat.le_of_ble_eq_true rfl) rfl rfl ?_
            refine V.iincN (lv' := [some (.ref (a 0)), some (.int (nI (k_))), some (.int (nI (v_))), none, some (.int (nI ((sumN i84 (fun j => bN (!decide (cmpF x j = cmpF (upN (scS x) k_ v_, x.2) j)))) + 0))), some (.int (nI (i84 + 1)))]) E dX5_ifSet_118 rfl (Nat.le_of_ble_eq_true rfl) rfl rfl ?_
            refine V.goto (tgt := 84) E dX5_ifSet_121 (by decide) ?_
            refine V.locN (b := sumN (i84 + 1) (fun j => bN (!decide (cmpF x j = cmpF (upN (scS x) k_ v_, x.2) j)))) (lv' := [some (.ref (a 0)), some (.int (nI (k_))), some (.int (nI (v_))), none, some (.int (nI (sumN (i84 + 1) (fun j => bN (!decide (cmpF x j = cmpF (upN (scS x) k_ v_, x.2) j)))))), some (.int (nI (i84 + 1)))]) 4 (by rw [sumN]; show _ = _ + bN (!decide (cmpF x i84 = cmpF (upN (scS x) k_ v_, x.2) i84)); simp [bN, q_107]) rfl rfl ?_
            exact ih_84 (by omega)
      · refine V.aload_n E dX5_ifSet_35 rfl rfl ?_
        refine V.getf (C := RX5) (T := TX5) (N := 17) (ref := "GlassSpillModel") E 0 5 11 (by decide +kernel) rfl rfl (by decide) (by decide +kernel) rfl rfl dX5_ifSet_36 ?_
        refine V.iload_n E dX5_ifSet_39 rfl rfl ?_
        refine V.aload_n E dX5_ifSet_40 rfl rfl ?_
        refine V.getf (C := RX5) (T := TX5) (N := 17) (ref := "GlassSpillModel") E 0 5 9 (by decide +kernel) rfl rfl (by decide) (by decide +kernel) rfl rfl dX5_ifSet_41 ?_
        refine V.iload_n E dX5_ifSet_44 rfl rfl ?_
        refine V.ialdN (v := nI ((cmpF x) i29)) E 9 rfl (by omega) (by decide) (rfl) dX5_ifSet_45 ?_
        refine V.iastN (f' := nA (mxn (i29 + 1) (cmpF x) w)) (ws' := (bl [mdW G a (fla x) hi sl sv (rawF x) (opqF x) (kndF x) (tknF x) (cmpF x) g_24 (mxn (i29 + 1) (cmpF x) w) tx cl hl tl sp rd])) E 11 rfl (by omega) (by decide) dX5_ifSet_46 (fun j _ => mxn_u rfl j) rfl ?_
        refine V.iincN (lv' := [some (.ref (a 0)), some (.int (nI (k_))), some (.int (nI (v_))), some (.int (nI (i29 + 1))), none, none]) E dX5_ifSet_47 rfl (Nat.le_of_ble_eq_true rfl) rfl rfl ?_
        refine V.goto (tgt := 29) E dX5_ifSet_50 (by decide) ?_
        exact ih_29 (by omega)
    · exact absurd (ho.symm.trans q_17) (by decide)
  · exact absurd ((okSet_n hk hv_).symm.trans q_5) (by decide)
def inS (k : Int32) : Bool := decide (((2 : Nat) : Int) ≤ k.toInt ∧ k.toInt ≤ ((4 : Nat) : Int))
theorem upN_id {f : Nat → Nat} {k : Nat} : upN f k (f k) = f := by
  funext j
  unfold upN
  by_cases h : j = k
  · rw [if_pos h, h]
  · rw [if_neg h]
theorem ordN_s {x : SC} (h : SInv x) {k v : Nat} (hk : 2 ≤ k) : ordN x k v = true := by
  unfold ordN
  rw [if_neg (by omega), if_neg (by omega)]
  exact decide_eq_true h.lt
theorem hv_s {k v : Nat} (h1 : 2 ≤ k) (h2 : k ≤ 4) (hv2 : v ≤ 16) : v ≤ hv k := by
  rcases (show k = 2 ∨ k = 3 ∨ k = 4 by omega) with rfl | rfl | rfl <;> exact hv2
abbrev rm_c_X5_bestShare_bad : Room := { frames := 1, cells := 0, slots := 0, locals := 25 }
theorem hd_X5_bestShare : yX5_bestShare.cls ≠ "java/lang/invoke/MethodHandle" ∧ yX5_bestShare.cls ≠ "java/lang/invoke/VarHandle" ∧ (parseMethodDescriptor yX5_bestShare.desc).map (fun d => d.parameters.length) = some 2 := by decide +kernel
set_option maxRecDepth 100000 in
set_option maxHeartbeats 8000000 in
theorem c_X5_bestShare_bad (G : VC) (a : Nat → Nat) (hi : Nat → Nat) (sl : Nat → Nat) (sv : Nat → Nat) (r : Nat → Nat) (o : Nat → Nat) (k : Nat → Nat) (t : Nat → Nat) (m : Nat → Nat) (e : Nat → Nat) (w : Nat → Nat) (tx : Nat → Nat) (cl : Nat → Int32) (hl : Nat) (tl : Nat) (sp : Nat) (rd : Nat) (x : SC) (k_ : Int32) (w_ : Int32) (hb : (inS k_ && okI 2 w_) = false) : Ctr yX5_bestShare wsX5_bestShare rm_c_X5_bestShare_bad G [.ref (a 0), .int (k_), .int (w_)] (bl [mdW G a (fla x) hi sl sv r o k t m e w tx cl hl tl sp rd]) (fun v9_ u9_ => u9_ = (bl [mdW G a (fla x) hi sl sv r o k t m e w tx cl hl tl sp rd]) ∧ v9_ = some (.int ((-2 : Int32)))) := by
  refine Ctr.int (cc := cX5_bestShare) (maxL := 9) (ret := (some .int)) (lv0 := [some (.ref (a 0)), some (.int (k_)), some (.int (w_)), none, none, none, none, none, none]) (by decide) rfl rfl rfl (Nat.le_of_ble_eq_true rfl) rfl (fun A X E hend => ?_)
  refine V.iload_n E dX5_bestShare_0 rfl rfl ?_
  refine V.i2l E dX5_bestShare_1 rfl ?_
  refine V.ldc2 (v := 2) E (by decide +kernel) dX5_bestShare_2 ?_
  refine V.ldc2 (v := 4) E (by decide +kernel) dX5_bestShare_5 ?_
  refine V.callS E (c_X5_in G k_.toInt64 ((2 : Int64)) ((4 : Int64)) ) (bl [mdW G a (fla x) hi sl sv r o k t m e w tx cl hl tl sp rd]) [] gX5_bestShare_X5_in rfl hd_X5_in ⟨⟨Nat.le_of_ble_eq_true rfl, Nat.le_of_ble_eq_true rfl⟩, Nat.le_of_ble_eq_true rfl, Nat.le_of_ble_eq_true rfl⟩ rfl (Nat.le_of_ble_eq_true rfl) rfl dX5_bestShare_8 (List.Perm.refl _) (kc' := 0) (ks' := 0) rfl rfl (rwI (ws' := (bl [mdW G a (fla x) hi sl sv r o k t m e w tx cl hl tl sp rd])) (List.Perm.refl _) ?_)
  refine V.topN (b := bN (inS k_)) (congrArg bN (inL_raw _ (b := 2) (c := 4) (by decide) (by decide))) ?_
  refine V.if_eqB (tgt := 24) E dX5_bestShare_11 (by decide) (fun q_11 => ?_) (fun q_11 => ?_)
  · refine V.bipush (v := (-2 : Int32)) E dX5_bestShare_24 (by decide) ?_
    exact hend _ _ _ _ dX5_bestShare_26 (nrI _) ⟨rfl, rfl⟩
  · refine V.iload_n E dX5_bestShare_14 rfl rfl ?_
    refine V.i2l E dX5_bestShare_15 rfl ?_
    refine V.lconst (v := 0) E dX5_bestShare_16 (by decide) ?_
    refine V.lconst (v := 1) E dX5_bestShare_17 (by decide) ?_
    refine V.callS E (c_X5_in G w_.toInt64 ((0 : Int64)) ((1 : Int64)) ) (bl [mdW G a (fla x) hi sl sv r o k t m e w tx cl hl tl sp rd]) [] gX5_bestShare_X5_in rfl hd_X5_in ⟨⟨Nat.le_of_ble_eq_true rfl, Nat.le_of_ble_eq_true rfl⟩, Nat.le_of_ble_eq_true rfl, Nat.le_of_ble_eq_true rfl⟩ rfl (Nat.le_of_ble_eq_true rfl) rfl dX5_bestShare_18 (List.Perm.refl _) (kc' := 0) (ks' := 0) rfl rfl (rwI (ws' := (bl [mdW G a (fla x) hi sl sv r o k t m e w tx cl hl tl sp rd])) (List.Perm.refl _) ?_)
    refine V.topN (b := bN (okI 2 w_)) (congrArg bN (inL_ok _ (n := 1) (by decide))) ?_
    refine V.if_neB (tgt := 27) E dX5_bestShare_21 (by decide) (fun q_21 => ?_) (fun q_21 => ?_)
    · exact absurd (hb.symm.trans (by rw [q_11, q_21] <;> rfl)) (by decide)
    · refine V.bipush (v := (-2 : Int32)) E dX5_bestShare_24 (by decide) ?_
      exact hend _ _ _ _ dX5_bestShare_26 (nrI _) ⟨rfl, rfl⟩
theorem fla_uu (x : SC) {k v w : Nat} (hk : k < 6) (j : Nat) : upd (nA (fla (upN (scS x) k v, x.2))) k (nI w) j = nA (fla (upN (scS x) k w, x.2)) j := by
  rw [fla_uS (upN (scS x) k v, x.2) hk j]
  have e : upN (upN (scS x) k v) k w = upN (scS x) k w := by
    funext i
    unfold upN
    by_cases h : i = k
    · rw [if_pos h, if_pos h]
    · rw [if_neg h, if_neg h, if_neg h]
  show nA (fla (upN (upN (scS x) k v) k w, x.2)) j = _
  rw [e]
abbrev rm_c_X5_bestShare_ok : Room := { frames := 5, cells := 0, slots := 0, locals := 116 }
set_option maxRecDepth 100000 in
set_option maxHeartbeats 8000000 in
theorem c_X5_bestShare_ok (G : VC) (a : Nat → Nat) (hi : Nat → Nat) (sl : Nat → Nat) (sv : Nat → Nat) (r : Nat → Nat) (o : Nat → Nat) (k : Nat → Nat) (t : Nat → Nat) (m : Nat → Nat) (e : Nat → Nat) (w : Nat → Nat) (tx : Nat → Nat) (cl : Nat → Int32) (hl : Nat) (tl : Nat) (sp : Nat) (rd : Nat) (x : SC) (k_ : Nat) (w_ : Nat) (hx : SInv x) (h2 : 2 ≤ k_) (h4 : k_ ≤ 4) (hw : w_ < 2) : Ctr yX5_bestShare wsX5_bestShare rm_c_X5_bestShare_ok G [.ref (a 0), .int (nI (k_)), .int (nI (w_))] (bl [mdW G a (fla x) hi sl sv r o k t m e w tx cl hl tl sp rd]) (fun v9_ u9_ => ∃ gg : RG, u9_ = (bl [mdW G a (fla x) hi sl sv gg.1 gg.2.1 gg.2.2.1 gg.2.2.2.1 gg.2.2.2.2.1 gg.2.2.2.2.2.1 w tx cl hl tl sp rd]) ∧ v9_ = some (.int (nI (if w_ = 0 then (bsh x k_ 17).1 else (bsh x k_ 17).2))) ∧ (True)) := by
  refine Ctr.int (cc := cX5_bestShare) (maxL := 9) (ret := (some .int)) (lv0 := [some (.ref (a 0)), some (.int (nI (k_))), some (.int (nI (w_))), none, none, none, none, none, none]) (by decide) rfl rfl rfl (Nat.le_of_ble_eq_true rfl) rfl (fun A X E hend => ?_)
  have hk6 : k_ < 6 := by omega
  refine V.iload_n E dX5_bestShare_0 rfl rfl ?_
  refine V.i2l E dX5_bestShare_1 rfl ?_
  refine V.ldc2 (v := 2) E (by decide +kernel) dX5_bestShare_2 ?_
  refine V.ldc2 (v := 4) E (by decide +kernel) dX5_bestShare_5 ?_
  refine V.callS E (c_X5_in G ((nI (k_)).toInt64) ((2 : Int64)) ((4 : Int64)) ) (bl [mdW G a (fla x) hi sl sv r o k t m e w tx cl hl tl sp rd]) [] gX5_bestShare_X5_in rfl hd_X5_in ⟨⟨Nat.le_of_ble_eq_true rfl, Nat.le_of_ble_eq_true rfl⟩, Nat.le_of_ble_eq_true rfl, Nat.le_of_ble_eq_true rfl⟩ rfl (Nat.le_of_ble_eq_true rfl) rfl dX5_bestShare_8 (List.Perm.refl _) (kc' := 0) (ks' := 0) rfl rfl (rwI (ws' := (bl [mdW G a (fla x) hi sl sv r o k t m e w tx cl hl tl sp rd])) (List.Perm.refl _) ?_)
  refine V.topN (b := bN (decide (2 ≤ k_ ∧ k_ ≤ 4))) (congrArg bN (inL_LN (b := 2) (c := 4) (by omega) (by decide) (by decide))) ?_
  refine V.if_eqB (tgt := 24) E dX5_bestShare_11 (by decide) (fun q_11 => ?_) (fun q_11 => ?_)
  · exact absurd (of_decide_eq_false q_11) (by omega)
  · refine V.iload_n E dX5_bestShare_14 rfl rfl ?_
    refine V.i2l E dX5_bestShare_15 rfl ?_
    refine V.lconst (v := 0) E dX5_bestShare_16 (by decide) ?_
    refine V.lconst (v := 1) E dX5_bestShare_17 (by decide) ?_
    refine V.callS E (c_X5_in G ((nI (w_)).toInt64) ((0 : Int64)) ((1 : Int64)) ) (bl [mdW G a (fla x) hi sl sv r o k t m e w tx cl hl tl sp rd]) [] gX5_bestShare_X5_in rfl hd_X5_in ⟨⟨Nat.le_of_ble_eq_true rfl, Nat.le_of_ble_eq_true rfl⟩, Nat.le_of_ble_eq_true rfl, Nat.le_of_ble_eq_true rfl⟩ rfl (Nat.le_of_ble_eq_true rfl) rfl dX5_bestShare_18 (List.Perm.refl _) (kc' := 0) (ks' := 0) rfl rfl (rwI (ws' := (bl [mdW G a (fla x) hi sl sv r o k t m e w tx cl hl tl sp rd])) (List.Perm.refl _) ?_)
    refine V.topN (b := bN (okI 2 (nI w_))) (congrArg bN (inL_ok _ (n := 1) (by decide))) ?_
    refine V.if_neB (tgt := 27) E dX5_bestShare_21 (by decide) (fun q_21 => ?_) (fun q_21 => ?_)
    · refine V.aload_n E dX5_bestShare_27 rfl rfl ?_
      refine V.getf (C := RX5) (T := TX5) (N := 17) (ref := "GlassSpillModel") E 0 5 0 (by decide +kernel) rfl rfl (by decide) (by decide +kernel) rfl rfl dX5_bestShare_28 ?_
      refine V.iload_n E dX5_bestShare_31 rfl rfl ?_
      refine V.ialdN (v := nI (scS x k_)) E 1 rfl (by omega) (by decide) (congrArg nI (fla_S _ hk6)) dX5_bestShare_32 ?_
      refine V.istore_n (lv' := [some (.ref (a 0)), some (.int (nI (k_))), some (.int (nI (w_))), some (.int (nI (scS x k_))), none, none, none, none, none]) E dX5_bestShare_33 rfl (Nat.le_of_ble_eq_true rfl) rfl rfl ?_
      refine V.iconst (v := nI (0)) E dX5_bestShare_34 (by decide) ?_
      refine V.istore (lv' := [some (.ref (a 0)), some (.int (nI (k_))), some (.int (nI (w_))), some (.int (nI (scS x k_))), some (.int (nI (0))), none, none, none, none]) E dX5_bestShare_35 (Nat.le_of_ble_eq_true rfl) rfl rfl ?_
      refine V.iconst (v := (-1 : Int32)) E dX5_bestShare_37 (by decide) ?_
      refine V.istore (lv' := [some (.ref (a 0)), some (.int (nI (k_))), some (.int (nI (w_))), some (.int (nI (scS x k_))), some (.int (nI (0))), some (.int ((-1 : Int32))), none, none, none]) E dX5_bestShare_38 (Nat.le_of_ble_eq_true rfl) rfl rfl ?_
      refine V.iconst (v := nI (0)) E dX5_bestShare_40 (by decide) ?_
      refine V.istore (lv' := [some (.ref (a 0)), some (.int (nI (k_))), some (.int (nI (w_))), some (.int (nI (scS x k_))), some (.int (nI (0))), some (.int ((-1 : Int32))), some (.int (nI (0))), none, none]) E dX5_bestShare_41 (Nat.le_of_ble_eq_true rfl) rfl rfl ?_
      refine V.iload E dX5_bestShare_43 rfl ?_
      refine V.bipush (v := nI (16)) E dX5_bestShare_45 (by decide) ?_
      refine V.icmp_gtN (tgt := 121) E (by omega) (by omega) dX5_bestShare_47 (by decide) (fun q_47 => absurd q_47 (by decide)) (fun q_47 => ?_)
      refine V.aload_n E dX5_bestShare_50 rfl rfl ?_
      refine V.getf (C := RX5) (T := TX5) (N := 17) (ref := "GlassSpillModel") E 0 5 0 (by decide +kernel) rfl rfl (by decide) (by decide +kernel) rfl rfl dX5_bestShare_51 ?_
      refine V.iload_n E dX5_bestShare_54 rfl rfl ?_
      refine V.iload E dX5_bestShare_55 rfl ?_
      refine V.iastN (f' := nA (fla (upN (scS x) k_ 0, x.2))) (ws' := (bl [mdW G a (fla (upN (scS x) k_ 0, x.2)) hi sl sv r o k t m e w tx cl hl tl sp rd])) E 1 rfl (by omega) (by decide) dX5_bestShare_57 (fun j _ => fla_uS x hk6 j) rfl ?_
      refine V.aload_n E dX5_bestShare_58 rfl rfl ?_
      refine V.callV (C := RX5) E (c_X5_works G a hi sl sv r o k t m e w tx cl hl tl sp rd (upN (scS x) k_ 0, x.2) (hx.set (hv_s h2 h4 (by omega)) (ordN_s hx h2))) (bl []) [] 0 5 rfl rfl rfl gX5_bestShare_X5_works rfl ⟨rfl, hd_X5_works⟩ ⟨⟨Nat.le_of_ble_eq_true rfl, Nat.le_of_ble_eq_true rfl⟩, Nat.le_of_ble_eq_true rfl, Nat.le_of_ble_eq_true rfl⟩ rfl (Nat.le_of_ble_eq_true rfl) rfl dX5_bestShare_59 (pBs (n := 1) [mdW G a (fla (upN (scS x) k_ 0, x.2)) hi sl sv r o k t m e w tx cl hl tl sp rd] [0] [] rfl (by decide)) (kc' := 0) (ks' := 0) rfl rfl (rxV (ws' := fun (g_59 : Nat → Nat) => (bl [mdW G a (fla (upN (scS x) k_ 0, x.2)) hi sl sv (rawF (upN (scS x) k_ 0, x.2)) (opqF (upN (scS x) k_ 0, x.2)) (kndF (upN (scS x) k_ 0, x.2)) (tknF (upN (scS x) k_ 0, x.2)) (cmpF (upN (scS x) k_ 0, x.2)) g_59 w tx cl hl tl sp rd])) (fun g_59 => (pBs (n := 1) [mdW G a (fla (upN (scS x) k_ 0, x.2)) hi sl sv (rawF (upN (scS x) k_ 0, x.2)) (opqF (upN (scS x) k_ 0, x.2)) (kndF (upN (scS x) k_ 0, x.2)) (tknF (upN (scS x) k_ 0, x.2)) (cmpF (upN (scS x) k_ 0, x.2)) g_59 w tx cl hl tl sp rd] [0] [] rfl (by decide)).symm) (fun g_59 hf_59 => ?_))
      refine V.aload_n E dX5_bestShare_62 rfl rfl ?_
      refine V.callV (C := RX5) E (c_X5_spillLeft G a hi sl sv (rawF (upN (scS x) k_ 0, x.2)) (opqF (upN (scS x) k_ 0, x.2)) (kndF (upN (scS x) k_ 0, x.2)) (tknF (upN (scS x) k_ 0, x.2)) (cmpF (upN (scS x) k_ 0, x.2)) g_59 w tx cl hl tl sp rd (upN (scS x) k_ 0, x.2) (hx.set (hv_s h2 h4 (by omega)) (ordN_s hx h2)) (fun j _ => cmpF_lt _ j)) (bl []) [] 0 5 rfl rfl rfl gX5_bestShare_X5_spillLeft rfl ⟨rfl, hd_X5_spillLeft⟩ ⟨⟨Nat.le_of_ble_eq_true rfl, Nat.le_of_ble_eq_true rfl⟩, Nat.le_of_ble_eq_true rfl, Nat.le_of_ble_eq_true rfl⟩ rfl (Nat.le_of_ble_eq_true rfl) rfl dX5_bestShare_63 (pBs (n := 1) [mdW G a (fla (upN (scS x) k_ 0, x.2)) hi sl sv (rawF (upN (scS x) k_ 0, x.2)) (opqF (upN (scS x) k_ 0, x.2)) (kndF (upN (scS x) k_ 0, x.2)) (tknF (upN (scS x) k_ 0, x.2)) (cmpF (upN (scS x) k_ 0, x.2)) g_59 w tx cl hl tl sp rd] [0] [] rfl (by decide)) (kc' := 0) (ks' := 0) rfl rfl (rwI (ws' := (bl [mdW G a (fla (upN (scS x) k_ 0, x.2)) hi sl sv (rawF (upN (scS x) k_ 0, x.2)) (opqF (upN (scS x) k_ 0, x.2)) (kndF (upN (scS x) k_ 0, x.2)) (tknF (upN (scS x) k_ 0, x.2)) (cmpF (upN (scS x) k_ 0, x.2)) g_59 w tx cl hl tl sp rd])) (pBs (n := 1) [mdW G a (fla (upN (scS x) k_ 0, x.2)) hi sl sv (rawF (upN (scS x) k_ 0, x.2)) (opqF (upN (scS x) k_ 0, x.2)) (kndF (upN (scS x) k_ 0, x.2)) (tknF (upN (scS x) k_ 0, x.2)) (cmpF (upN (scS x) k_ 0, x.2)) g_59 w tx cl hl tl sp rd] [0] [] rfl (by decide)).symm ?_)
      refine V.topN (b := lefN x k_ 0) (by unfold lefN; rfl) ?_
      refine V.istore (lv' := [some (.ref (a 0)), some (.int (nI (k_))), some (.int (nI (w_))), some (.int (nI (scS x k_))), some (.int (nI (0))), some (.int ((-1 : Int32))), some (.int (nI (0))), some (.int (nI (lefN x k_ 0))), none]) E dX5_bestShare_66 (Nat.le_of_ble_eq_true rfl) rfl rfl ?_
      refine V.iload E dX5_bestShare_68 rfl ?_
      refine V.if_lt (tgt := 80) E dX5_bestShare_70 (by decide) (fun q_70 => ?_) (fun q_70 => ?_)
      · refine V.iconst (v := nI (1)) E dX5_bestShare_80 (by decide) ?_
        refine V.goto (tgt := 85) E dX5_bestShare_81 (by decide) ?_
        refine V.istore (lv' := [some (.ref (a 0)), some (.int (nI (k_))), some (.int (nI (w_))), some (.int (nI (scS x k_))), some (.int (nI (0))), some (.int ((-1 : Int32))), some (.int (nI (0))), some (.int (nI (lefN x k_ 0))), some (.int (nI (1)))]) E dX5_bestShare_85 (Nat.le_of_ble_eq_true rfl) rfl rfl ?_
        refine V.iload E dX5_bestShare_87 rfl ?_
        refine V.if_eqN (tgt := 97) E (by omega) dX5_bestShare_89 (by decide) (fun q_89 => absurd q_89 (by decide)) (fun q_89 => ?_)
        refine V.iload E dX5_bestShare_92 rfl ?_
        refine V.goto (tgt := 99) E dX5_bestShare_94 (by decide) ?_
        refine V.istore (lv' := [some (.ref (a 0)), some (.int (nI (k_))), some (.int (nI (w_))), some (.int (nI (scS x k_))), some (.int (nI (0))), some (.int ((-1 : Int32))), some (.int (nI (0))), some (.int (nI (lefN x k_ 0))), some (.int (nI (1)))]) E dX5_bestShare_99 (Nat.le_of_ble_eq_true rfl) rfl rfl ?_
        refine V.iload E dX5_bestShare_101 rfl ?_
        refine V.if_eqN (tgt := 111) E (by omega) dX5_bestShare_103 (by decide) (fun q_103 => absurd q_103 (by decide)) (fun q_103 => ?_)
        refine V.iload E dX5_bestShare_106 rfl ?_
        refine V.goto (tgt := 113) E dX5_bestShare_108 (by decide) ?_
        refine V.istore (lv' := [some (.ref (a 0)), some (.int (nI (k_))), some (.int (nI (w_))), some (.int (nI (scS x k_))), some (.int (nI (0))), some (.int (nI (lefN x k_ 0))), some (.int (nI (0))), some (.int (nI (lefN x k_ 0))), some (.int (nI (1)))]) E dX5_bestShare_113 (Nat.le_of_ble_eq_true rfl) rfl rfl ?_
        refine V.iincN (lv' := [some (.ref (a 0)), some (.int (nI (k_))), some (.int (nI (w_))), some (.int (nI (scS x k_))), some (.int (nI (0))), some (.int (nI (lefN x k_ 0))), some (.int (nI (1))), some (.int (nI (lefN x k_ 0))), some (.int (nI (1)))]) E dX5_bestShare_115 rfl (Nat.le_of_ble_eq_true rfl) rfl rfl ?_
        refine V.goto (tgt := 43) E dX5_bestShare_118 (by decide) ?_
        refine V.drop (lv' := [some (.ref (a 0)), some (.int (nI (k_))), some (.int (nI (w_))), some (.int (nI (scS x k_))), some (.int (nI (0))), some (.int (nI (lefN x k_ 0))), some (.int (nI (1))), none, none]) [true, true, true, true, true, true, true, false, false] rfl ?_
        refine V.locN (b := (bsh x k_ 1).1) (lv' := [some (.ref (a 0)), some (.int (nI (k_))), some (.int (nI (w_))), some (.int (nI (scS x k_))), some (.int (nI ((bsh x k_ 1).1))), some (.int (nI (lefN x k_ 0))), some (.int (nI (1))), none, none]) 4 (rfl) rfl rfl ?_
        refine V.locN (b := (bsh x k_ 1).2) (lv' := [some (.ref (a 0)), some (.int (nI (k_))), some (.int (nI (w_))), some (.int (nI (scS x k_))), some (.int (nI ((bsh x k_ 1).1))), some (.int (nI ((bsh x k_ 1).2))), some (.int (nI (1))), none, none]) 5 (rfl) rfl rfl ?_
        show V G A X rm_c_X5_bestShare_ok (bl [mdW G a (fla (upN (scS x) k_ ((rawF (upN (scS x) k_ 0, x.2), opqF (upN (scS x) k_ 0, x.2), kndF (upN (scS x) k_ 0, x.2), tknF (upN (scS x) k_ 0, x.2), cmpF (upN (scS x) k_ 0, x.2), g_59, 0)).2.2.2.2.2.2, x.2)) hi sl sv (((rawF (upN (scS x) k_ 0, x.2), opqF (upN (scS x) k_ 0, x.2), kndF (upN (scS x) k_ 0, x.2), tknF (upN (scS x) k_ 0, x.2), cmpF (upN (scS x) k_ 0, x.2), g_59, 0)).1) (((rawF (upN (scS x) k_ 0, x.2), opqF (upN (scS x) k_ 0, x.2), kndF (upN (scS x) k_ 0, x.2), tknF (upN (scS x) k_ 0, x.2), cmpF (upN (scS x) k_ 0, x.2), g_59, 0)).2.1) (((rawF (upN (scS x) k_ 0, x.2), opqF (upN (scS x) k_ 0, x.2), kndF (upN (scS x) k_ 0, x.2), tknF (upN (scS x) k_ 0, x.2), cmpF (upN (scS x) k_ 0, x.2), g_59, 0)).2.2.1) (((rawF (upN (scS x) k_ 0, x.2), opqF (upN (scS x) k_ 0, x.2), kndF (upN (scS x) k_ 0, x.2), tknF (upN (scS x) k_ 0, x.2), cmpF (upN (scS x) k_ 0, x.2), g_59, 0)).2.2.2.1) (((rawF (upN (scS x) k_ 0, x.2), opqF (upN (scS x) k_ 0, x.2), kndF (upN (scS x) k_ 0, x.2), tknF (upN (scS x) k_ 0, x.2), cmpF (upN (scS x) k_ 0, x.2), g_59, 0)).2.2.2.2.1) (((rawF (upN (scS x) k_ 0, x.2), opqF (upN (scS x) k_ 0, x.2), kndF (upN (scS x) k_ 0, x.2), tknF (upN (scS x) k_ 0, x.2), cmpF (upN (scS x) k_ 0, x.2), g_59, 0)).2.2.2.2.2.1) w tx cl hl tl sp rd]) 0 0 43 [some (.ref (a 0)), some (.int (nI (k_))), some (.int (nI (w_))), some (.int (nI (scS x k_))), some (.int (nI ((bsh x k_ 1).1))), some (.int (nI ((bsh x k_ 1).2))), some (.int (nI (1))), none, none] []
        refine loopN (P := fun i43 => ∀ gg : RG, (1 ≤ i43) → V G A X rm_c_X5_bestShare_ok (bl [mdW G a (fla (upN (scS x) k_ gg.2.2.2.2.2.2, x.2)) hi sl sv gg.1 gg.2.1 gg.2.2.1 gg.2.2.2.1 gg.2.2.2.2.1 gg.2.2.2.2.2.1 w tx cl hl tl sp rd]) 0 0 43 [some (.ref (a 0)), some (.int (nI (k_))), some (.int (nI (w_))), some (.int (nI (scS x k_))), some (.int (nI ((bsh x k_ i43).1))), some (.int (nI ((bsh x k_ i43).2))), some (.int (nI (i43))), none, none] []) 17 (fun i43 hi_43 ih_43 gg hg_43 => ?_) 1 (by omega) ((rawF (upN (scS x) k_ 0, x.2), opqF (upN (scS x) k_ 0, x.2), kndF (upN (scS x) k_ 0, x.2), tknF (upN (scS x) k_ 0, x.2), cmpF (upN (scS x) k_ 0, x.2), g_59, 0)) (Nat.le_refl _)
        refine V.iload E dX5_bestShare_43 rfl ?_
        refine V.bipush (v := nI (16)) E dX5_bestShare_45 (by decide) ?_
        refine V.icmp_gtN (tgt := 121) E (by omega) (by omega) dX5_bestShare_47 (by decide) (fun q_47 => ?_) (fun q_47 => ?_)
        · obtain rfl : i43 = 17 := by omega
          refine V.aload_n E dX5_bestShare_121 rfl rfl ?_
          refine V.getf (C := RX5) (T := TX5) (N := 17) (ref := "GlassSpillModel") E 0 5 0 (by decide +kernel) rfl rfl (by decide) (by decide +kernel) rfl rfl dX5_bestShare_122 ?_
          refine V.iload_n E dX5_bestShare_125 rfl rfl ?_
          refine V.iload_n E dX5_bestShare_126 rfl rfl ?_
          refine V.iastN (f' := nA (fla x)) (ws' := (bl [mdW G a (fla x) hi sl sv gg.1 gg.2.1 gg.2.2.1 gg.2.2.2.1 gg.2.2.2.2.1 gg.2.2.2.2.2.1 w tx cl hl tl sp rd])) E 1 rfl (by omega) (by decide) dX5_bestShare_127 (fun j _ => fla_bk x hk6 j) rfl ?_
          refine V.iload_n E dX5_bestShare_128 rfl rfl ?_
          refine V.if_neN (tgt := 137) E (by omega) dX5_bestShare_129 (by decide) (fun q_129 => ?_) (fun q_129 => ?_)
          · refine V.iload E dX5_bestShare_137 rfl ?_
            refine V.topN (b := if w_ = 0 then (bsh x k_ 17).1 else (bsh x k_ 17).2) (by first | rw [if_pos q_129] | rw [if_neg q_129]) ?_
            exact hend _ _ _ _ dX5_bestShare_139 (nrI _) ⟨gg, rfl, rfl, trivial⟩
          · refine V.iload E dX5_bestShare_132 rfl ?_
            refine V.goto (tgt := 139) E dX5_bestShare_134 (by decide) ?_
            refine V.topN (b := if w_ = 0 then (bsh x k_ 17).1 else (bsh x k_ 17).2) (by first | rw [if_pos q_129] | rw [if_neg q_129]) ?_
            exact hend _ _ _ _ dX5_bestShare_139 (nrI _) ⟨gg, rfl, rfl, trivial⟩
        · refine V.aload_n E dX5_bestShare_50 rfl rfl ?_
          refine V.getf (C := RX5) (T := TX5) (N := 17) (ref := "GlassSpillModel") E 0 5 0 (by decide +kernel) rfl rfl (by decide) (by decide +kernel) rfl rfl dX5_bestShare_51 ?_
          refine V.iload_n E dX5_bestShare_54 rfl rfl ?_
          refine V.iload E dX5_bestShare_55 rfl ?_
          refine V.iastN (f' := nA (fla (upN (scS x) k_ i43, x.2))) (ws' := (bl [mdW G a (fla (upN (scS x) k_ i43, x.2)) hi sl sv gg.1 gg.2.1 gg.2.2.1 gg.2.2.2.1 gg.2.2.2.2.1 gg.2.2.2.2.2.1 w tx cl hl tl sp rd])) E 1 rfl (by omega) (by decide) dX5_bestShare_57 (fun j _ => fla_uu x hk6 j) rfl ?_
          refine V.aload_n E dX5_bestShare_58 rfl rfl ?_
          refine V.callV (C := RX5) E (c_X5_works G a hi sl sv gg.1 gg.2.1 gg.2.2.1 gg.2.2.2.1 gg.2.2.2.2.1 gg.2.2.2.2.2.1 w tx cl hl tl sp rd (upN (scS x) k_ i43, x.2) (hx.set (hv_s h2 h4 (by omega)) (ordN_s hx h2))) (bl []) [] 0 5 rfl rfl rfl gX5_bestShare_X5_works rfl ⟨rfl, hd_X5_works⟩ ⟨⟨Nat.le_of_ble_eq_true rfl, Nat.le_of_ble_eq_true rfl⟩, Nat.le_of_ble_eq_true rfl, Nat.le_of_ble_eq_true rfl⟩ rfl (Nat.le_of_ble_eq_true rfl) rfl dX5_bestShare_59 (pBs (n := 1) [mdW G a (fla (upN (scS x) k_ i43, x.2)) hi sl sv gg.1 gg.2.1 gg.2.2.1 gg.2.2.2.1 gg.2.2.2.2.1 gg.2.2.2.2.2.1 w tx cl hl tl sp rd] [0] [] rfl (by decide)) (kc' := 0) (ks' := 0) rfl rfl (rxV (ws' := fun (g_59 : Nat → Nat) => (bl [mdW G a (fla (upN (scS x) k_ i43, x.2)) hi sl sv (rawF (upN (scS x) k_ i43, x.2)) (opqF (upN (scS x) k_ i43, x.2)) (kndF (upN (scS x) k_ i43, x.2)) (tknF (upN (scS x) k_ i43, x.2)) (cmpF (upN (scS x) k_ i43, x.2)) g_59 w tx cl hl tl sp rd])) (fun g_59 => (pBs (n := 1) [mdW G a (fla (upN (scS x) k_ i43, x.2)) hi sl sv (rawF (upN (scS x) k_ i43, x.2)) (opqF (upN (scS x) k_ i43, x.2)) (kndF (upN (scS x) k_ i43, x.2)) (tknF (upN (scS x) k_ i43, x.2)) (cmpF (upN (scS x) k_ i43, x.2)) g_59 w tx cl hl tl sp rd] [0] [] rfl (by decide)).symm) (fun g_59 hf_59 => ?_))
          refine V.aload_n E dX5_bestShare_62 rfl rfl ?_
          refine V.callV (C := RX5) E (c_X5_spillLeft G a hi sl sv (rawF (upN (scS x) k_ i43, x.2)) (opqF (upN (scS x) k_ i43, x.2)) (kndF (upN (scS x) k_ i43, x.2)) (tknF (upN (scS x) k_ i43, x.2)) (cmpF (upN (scS x) k_ i43, x.2)) g_59 w tx cl hl tl sp rd (upN (scS x) k_ i43, x.2) (hx.set (hv_s h2 h4 (by omega)) (ordN_s hx h2)) (fun j _ => cmpF_lt _ j)) (bl []) [] 0 5 rfl rfl rfl gX5_bestShare_X5_spillLeft rfl ⟨rfl, hd_X5_spillLeft⟩ ⟨⟨Nat.le_of_ble_eq_true rfl, Nat.le_of_ble_eq_true rfl⟩, Nat.le_of_ble_eq_true rfl, Nat.le_of_ble_eq_true rfl⟩ rfl (Nat.le_of_ble_eq_true rfl) rfl dX5_bestShare_63 (pBs (n := 1) [mdW G a (fla (upN (scS x) k_ i43, x.2)) hi sl sv (rawF (upN (scS x) k_ i43, x.2)) (opqF (upN (scS x) k_ i43, x.2)) (kndF (upN (scS x) k_ i43, x.2)) (tknF (upN (scS x) k_ i43, x.2)) (cmpF (upN (scS x) k_ i43, x.2)) g_59 w tx cl hl tl sp rd] [0] [] rfl (by decide)) (kc' := 0) (ks' := 0) rfl rfl (rwI (ws' := (bl [mdW G a (fla (upN (scS x) k_ i43, x.2)) hi sl sv (rawF (upN (scS x) k_ i43, x.2)) (opqF (upN (scS x) k_ i43, x.2)) (kndF (upN (scS x) k_ i43, x.2)) (tknF (upN (scS x) k_ i43, x.2)) (cmpF (upN (scS x) k_ i43, x.2)) g_59 w tx cl hl tl sp rd])) (pBs (n := 1) [mdW G a (fla (upN (scS x) k_ i43, x.2)) hi sl sv (rawF (upN (scS x) k_ i43, x.2)) (opqF (upN (scS x) k_ i43, x.2)) (kndF (upN (scS x) k_ i43, x.2)) (tknF (upN (scS x) k_ i43, x.2)) (cmpF (upN (scS x) k_ i43, x.2)) g_59 w tx cl hl tl sp rd] [0] [] rfl (by decide)).symm ?_)
          refine V.topN (b := lefN x k_ i43) (by unfold lefN; rfl) ?_
          refine V.istore (lv' := [some (.ref (a 0)), some (.int (nI (k_))), some (.int (nI (w_))), some (.int (nI (scS x k_))), some (.int (nI ((bsh x k_ i43).1))), some (.int (nI ((bsh x k_ i43).2))), some (.int (nI (i43))), some (.int (nI (lefN x k_ i43))), none]) E dX5_bestShare_66 (Nat.le_of_ble_eq_true rfl) rfl rfl ?_
          refine V.iload E dX5_bestShare_68 rfl ?_
          refine V.if_ltN (tgt := 80) E (Nat.lt_of_le_of_lt (bsh_le x k_ _).1 (by decide)) dX5_bestShare_70 (by decide) ?_
          refine V.iload E dX5_bestShare_73 rfl ?_
          refine V.iload E dX5_bestShare_75 rfl ?_
          refine V.icmp_geN (tgt := 84) E (Nat.lt_of_le_of_lt (lefN_le x k_ _) (by decide)) (Nat.lt_of_le_of_lt (bsh_le x k_ _).1 (by decide)) dX5_bestShare_77 (by decide) (fun q_77 => ?_) (fun q_77 => ?_)
          · refine V.iconst (v := nI (0)) E dX5_bestShare_84 (by decide) ?_
            refine V.istore (lv' := [some (.ref (a 0)), some (.int (nI (k_))), some (.int (nI (w_))), some (.int (nI (scS x k_))), some (.int (nI ((bsh x k_ i43).1))), some (.int (nI ((bsh x k_ i43).2))), some (.int (nI (i43))), some (.int (nI (lefN x k_ i43))), some (.int (nI (0)))]) E dX5_bestShare_85 (Nat.le_of_ble_eq_true rfl) rfl rfl ?_
            refine V.iload E dX5_bestShare_87 rfl ?_
            refine V.if_eqN (tgt := 97) E (by omega) dX5_bestShare_89 (by decide) (fun q_89 => ?_) (fun q_89 => absurd q_89 (by decide))
            refine V.iload E dX5_bestShare_97 rfl ?_
            refine V.istore (lv' := [some (.ref (a 0)), some (.int (nI (k_))), some (.int (nI (w_))), some (.int (nI (scS x k_))), some (.int (nI ((bsh x k_ i43).1))), some (.int (nI ((bsh x k_ i43).2))), some (.int (nI (i43))), some (.int (nI (lefN x k_ i43))), some (.int (nI (0)))]) E dX5_bestShare_99 (Nat.le_of_ble_eq_true rfl) rfl rfl ?_
            refine V.iload E dX5_bestShare_101 rfl ?_
            refine V.if_eqN (tgt := 111) E (by omega) dX5_bestShare_103 (by decide) (fun q_103 => ?_) (fun q_103 => absurd q_103 (by decide))
            refine V.iload E dX5_bestShare_111 rfl ?_
            refine V.istore (lv' := [some (.ref (a 0)), some (.int (nI (k_))), some (.int (nI (w_))), some (.int (nI (scS x k_))), some (.int (nI ((bsh x k_ i43).1))), some (.int (nI ((bsh x k_ i43).2))), some (.int (nI (i43))), some (.int (nI (lefN x k_ i43))), some (.int (nI (0)))]) E dX5_bestShare_113 (Nat.le_of_ble_eq_true rfl) rfl rfl ?_
            refine V.iincN (lv' := [some (.ref (a 0)), some (.int (nI (k_))), some (.int (nI (w_))), some (.int (nI (scS x k_))), some (.int (nI ((bsh x k_ i43).1))), some (.int (nI ((bsh x k_ i43).2))), some (.int (nI (i43 + 1))), some (.int (nI (lefN x k_ i43))), some (.int (nI (0)))]) E dX5_bestShare_115 rfl (Nat.le_of_ble_eq_true rfl) rfl rfl ?_
            refine V.goto (tgt := 43) E dX5_bestShare_118 (by decide) ?_
            refine V.drop (lv' := [some (.ref (a 0)), some (.int (nI (k_))), some (.int (nI (w_))), some (.int (nI (scS x k_))), some (.int (nI ((bsh x k_ i43).1))), some (.int (nI ((bsh x k_ i43).2))), some (.int (nI (i43 + 1))), none, none]) [true, true, true, true, true, true, true, false, false] rfl ?_
            refine V.locN (b := (bsh x k_ (i43 + 1)).1) (lv' := [some (.ref (a 0)), some (.int (nI (k_))), some (.int (nI (w_))), some (.int (nI (scS x k_))), some (.int (nI ((bsh x k_ (i43 + 1)).1))), some (.int (nI ((bsh x k_ i43).2))), some (.int (nI (i43 + 1))), none, none]) 4 (by rw [bsh, if_neg (by omega)]) rfl rfl ?_
            refine V.locN (b := (bsh x k_ (i43 + 1)).2) (lv' := [some (.ref (a 0)), some (.int (nI (k_))), some (.int (nI (w_))), some (.int (nI (scS x k_))), some (.int (nI ((bsh x k_ (i43 + 1)).1))), some (.int (nI ((bsh x k_ (i43 + 1)).2))), some (.int (nI (i43 + 1))), none, none]) 5 (by rw [bsh, if_neg (by omega)]) rfl rfl ?_
            show V G A X rm_c_X5_bestShare_ok (bl [mdW G a (fla (upN (scS x) k_ ((rawF (upN (scS x) k_ i43, x.2), opqF (upN (scS x) k_ i43, x.2), kndF (upN (scS x) k_ i43, x.2), tknF (upN (scS x) k_ i43, x.2), cmpF (upN (scS x) k_ i43, x.2), g_59, i43)).2.2.2.2.2.2, x.2)) hi sl sv (((rawF (upN (scS x) k_ i43, x.2), opqF (upN (scS x) k_ i43, x.2), kndF (upN (scS x) k_ i43, x.2), tknF (upN (scS x) k_ i43, x.2), cmpF (upN (scS x) k_ i43, x.2), g_59, i43)).1) (((rawF (upN (scS x) k_ i43, x.2), opqF (upN (scS x) k_ i43, x.2), kndF (upN (scS x) k_ i43, x.2), tknF (upN (scS x) k_ i43, x.2), cmpF (upN (scS x) k_ i43, x.2), g_59, i43)).2.1) (((rawF (upN (scS x) k_ i43, x.2), opqF (upN (scS x) k_ i43, x.2), kndF (upN (scS x) k_ i43, x.2), tknF (upN (scS x) k_ i43, x.2), cmpF (upN (scS x) k_ i43, x.2), g_59, i43)).2.2.1) (((rawF (upN (scS x) k_ i43, x.2), opqF (upN (scS x) k_ i43, x.2), kndF (upN (scS x) k_ i43, x.2), tknF (upN (scS x) k_ i43, x.2), cmpF (upN (scS x) k_ i43, x.2), g_59, i43)).2.2.2.1) (((rawF (upN (scS x) k_ i43, x.2), opqF (upN (scS x) k_ i43, x.2), kndF (upN (scS x) k_ i43, x.2), tknF (upN (scS x) k_ i43, x.2), cmpF (upN (scS x) k_ i43, x.2), g_59, i43)).2.2.2.2.1) (((rawF (upN (scS x) k_ i43, x.2), opqF (upN (scS x) k_ i43, x.2), kndF (upN (scS x) k_ i43, x.2), tknF (upN (scS x) k_ i43, x.2), cmpF (upN (scS x) k_ i43, x.2), g_59, i43)).2.2.2.2.2.1) w tx cl hl tl sp rd]) 0 0 43 [some (.ref (a 0)), some (.int (nI (k_))), some (.int (nI (w_))), some (.int (nI (scS x k_))), some (.int (nI ((bsh x k_ (i43 + 1)).1))), some (.int (nI ((bsh x k_ (i43 + 1)).2))), some (.int (nI (i43 + 1))), none, none] []
            exact ih_43 (by omega) ((rawF (upN (scS x) k_ i43, x.2), opqF (upN (scS x) k_ i43, x.2), kndF (upN (scS x) k_ i43, x.2), tknF (upN (scS x) k_ i43, x.2), cmpF (upN (scS x) k_ i43, x.2), g_59, i43)) (by omega)
          · refine V.iconst (v := nI (1)) E dX5_bestShare_80 (by decide) ?_
            refine V.goto (tgt := 85) E dX5_bestShare_81 (by decide) ?_
            refine V.istore (lv' := [some (.ref (a 0)), some (.int (nI (k_))), some (.int (nI (w_))), some (.int (nI (scS x k_))), some (.int (nI ((bsh x k_ i43).1))), some (.int (nI ((bsh x k_ i43).2))), some (.int (nI (i43))), some (.int (nI (lefN x k_ i43))), some (.int (nI (1)))]) E dX5_bestShare_85 (Nat.le_of_ble_eq_true rfl) rfl rfl ?_
            refine V.iload E dX5_bestShare_87 rfl ?_
            refine V.if_eqN (tgt := 97) E (by omega) dX5_bestShare_89 (by decide) (fun q_89 => absurd q_89 (by decide)) (fun q_89 => ?_)
            refine V.iload E dX5_bestShare_92 rfl ?_
            refine V.goto (tgt := 99) E dX5_bestShare_94 (by decide) ?_
            refine V.istore (lv' := [some (.ref (a 0)), some (.int (nI (k_))), some (.int (nI (w_))), some (.int (nI (scS x k_))), some (.int (nI (i43))), some (.int (nI ((bsh x k_ i43).2))), some (.int (nI (i43))), some (.int (nI (lefN x k_ i43))), some (.int (nI (1)))]) E dX5_bestShare_99 (Nat.le_of_ble_eq_true rfl) rfl rfl ?_
            refine V.iload E dX5_bestShare_101 rfl ?_
            refine V.if_eqN (tgt := 111) E (by omega) dX5_bestShare_103 (by decide) (fun q_103 => absurd q_103 (by decide)) (fun q_103 => ?_)
            refine V.iload E dX5_bestShare_106 rfl ?_
            refine V.goto (tgt := 113) E dX5_bestShare_108 (by decide) ?_
            refine V.istore (lv' := [some (.ref (a 0)), some (.int (nI (k_))), some (.int (nI (w_))), some (.int (nI (scS x k_))), some (.int (nI (i43))), some (.int (nI (lefN x k_ i43))), some (.int (nI (i43))), some (.int (nI (lefN x k_ i43))), some (.int (nI (1)))]) E dX5_bestShare_113 (Nat.le_of_ble_eq_true rfl) rfl rfl ?_
            refine V.iincN (lv' := [some (.ref (a 0)), some (.int (nI (k_))), some (.int (nI (w_))), some (.int (nI (scS x k_))), some (.int (nI (i43))), some (.int (nI (lefN x k_ i43))), some (.int (nI (i43 + 1))), some (.int (nI (lefN x k_ i43))), some (.int (nI (1)))]) E dX5_bestShare_115 rfl (Nat.le_of_ble_eq_true rfl) rfl rfl ?_
            refine V.goto (tgt := 43) E dX5_bestShare_118 (by decide) ?_
            refine V.drop (lv' := [some (.ref (a 0)), some (.int (nI (k_))), some (.int (nI (w_))), some (.int (nI (scS x k_))), some (.int (nI (i43))), some (.int (nI (lefN x k_ i43))), some (.int (nI (i43 + 1))), none, none]) [true, true, true, true, true, true, true, false, false] rfl ?_
            refine V.locN (b := (bsh x k_ (i43 + 1)).1) (lv' := [some (.ref (a 0)), some (.int (nI (k_))), some (.int (nI (w_))), some (.int (nI (scS x k_))), some (.int (nI ((bsh x k_ (i43 + 1)).1))), some (.int (nI (lefN x k_ i43))), some (.int (nI (i43 + 1))), none, none]) 4 (by rw [bsh, if_pos (Or.inr q_77)]) rfl rfl ?_
            refine V.locN (b := (bsh x k_ (i43 + 1)).2) (lv' := [some (.ref (a 0)), some (.int (nI (k_))), some (.int (nI (w_))), some (.int (nI (scS x k_))), some (.int (nI ((bsh x k_ (i43 + 1)).1))), some (.int (nI ((bsh x k_ (i43 + 1)).2))), some (.int (nI (i43 + 1))), none, none]) 5 (by rw [bsh, if_pos (Or.inr q_77)]) rfl rfl ?_
            show V G A X rm_c_X5_bestShare_ok (bl [mdW G a (fla (upN (scS x) k_ ((rawF (upN (scS x) k_ i43, x.2), opqF (upN (scS x) k_ i43, x.2), kndF (upN (scS x) k_ i43, x.2), tknF (upN (scS x) k_ i43, x.2), cmpF (upN (scS x) k_ i43, x.2), g_59, i43)).2.2.2.2.2.2, x.2)) hi sl sv (((rawF (upN (scS x) k_ i43, x.2), opqF (upN (scS x) k_ i43, x.2), kndF (upN (scS x) k_ i43, x.2), tknF (upN (scS x) k_ i43, x.2), cmpF (upN (scS x) k_ i43, x.2), g_59, i43)).1) (((rawF (upN (scS x) k_ i43, x.2), opqF (upN (scS x) k_ i43, x.2), kndF (upN (scS x) k_ i43, x.2), tknF (upN (scS x) k_ i43, x.2), cmpF (upN (scS x) k_ i43, x.2), g_59, i43)).2.1) (((rawF (upN (scS x) k_ i43, x.2), opqF (upN (scS x) k_ i43, x.2), kndF (upN (scS x) k_ i43, x.2), tknF (upN (scS x) k_ i43, x.2), cmpF (upN (scS x) k_ i43, x.2), g_59, i43)).2.2.1) (((rawF (upN (scS x) k_ i43, x.2), opqF (upN (scS x) k_ i43, x.2), kndF (upN (scS x) k_ i43, x.2), tknF (upN (scS x) k_ i43, x.2), cmpF (upN (scS x) k_ i43, x.2), g_59, i43)).2.2.2.1) (((rawF (upN (scS x) k_ i43, x.2), opqF (upN (scS x) k_ i43, x.2), kndF (upN (scS x) k_ i43, x.2), tknF (upN (scS x) k_ i43, x.2), cmpF (upN (scS x) k_ i43, x.2), g_59, i43)).2.2.2.2.1) (((rawF (upN (scS x) k_ i43, x.2), opqF (upN (scS x) k_ i43, x.2), kndF (upN (scS x) k_ i43, x.2), tknF (upN (scS x) k_ i43, x.2), cmpF (upN (scS x) k_ i43, x.2), g_59, i43)).2.2.2.2.2.1) w tx cl hl tl sp rd]) 0 0 43 [some (.ref (a 0)), some (.int (nI (k_))), some (.int (nI (w_))), some (.int (nI (scS x k_))), some (.int (nI ((bsh x k_ (i43 + 1)).1))), some (.int (nI ((bsh x k_ (i43 + 1)).2))), some (.int (nI (i43 + 1))), none, none] []
            exact ih_43 (by omega) ((rawF (upN (scS x) k_ i43, x.2), opqF (upN (scS x) k_ i43, x.2), kndF (upN (scS x) k_ i43, x.2), tknF (upN (scS x) k_ i43, x.2), cmpF (upN (scS x) k_ i43, x.2), g_59, i43)) (by omega)
      · exact absurd (by decide) q_70
    · exact absurd ((okI_n hw (by omega)).symm.trans q_21) (by decide)
