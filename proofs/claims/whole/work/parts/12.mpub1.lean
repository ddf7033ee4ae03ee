/-! the reference: its public methods, case by case -/
theorem mxn_o {d : Nat} {f : Nat → Nat} {i : Nat} : mxn i (fun j => f (j + d)) f (i + d) = f (i + d) := mxn_hi (by omega)
/-- the row f told from place h on, n numbers of it so far -/
def ins (h n : Nat) (f g : Nat → Nat) : Nat → Nat := fun j => if h ≤ j ∧ j < h + n then f (j - h) else g j
theorem ins_0 {h : Nat} {f g : Nat → Nat} (j : Nat) : nA g j = nA (ins h 0 f g) j := congrArg nI (if_neg (by omega)).symm
theorem ins_u {h n : Nat} {f g : Nat → Nat} (j : Nat) : upd (nA (ins h n f g)) (h + n) (nI (f n)) j = nA (ins h (n + 1) f g) j := by
  rw [upN_a]
  refine congrArg nI ?_
  unfold upN ins
  by_cases e : j = h + n
  · rw [if_pos e, if_pos (by omega), e, show h + n - h = n by omega]
  · rw [if_neg e]
    by_cases e2 : h ≤ j ∧ j < h + n
    · rw [if_pos e2, if_pos (by omega)]
    · rw [if_neg e2, if_neg (by omega)]
theorem ins_in {h n i : Nat} {f g : Nat → Nat} (hi : i < n) : ins h n f g (h + i) = f i := by
  unfold ins
  rw [if_pos (by omega), show h + i - h = i by omega]
theorem ins_out {h n j : Nat} {f g : Nat → Nat} (hj : j < h ∨ h + n ≤ j) : ins h n f g j = g j := if_neg (by omega)
/-- the history's row holds the hl states hh -/
def HI (hl : Nat) (hh : Nat → SC) (hi : Nat → Nat) : Prop := ∀ k, k < hl → ∀ j, j < 151 → hi (151 * k + j) = fla (hh k) j
def hlN (hl : Nat) : Nat := if hl = 6 then 6 else hl + 1
def hhN (x : SC) (hl : Nat) (hh : Nat → SC) : Nat → SC := if hl = 6 then fun k => if k = 5 then x else hh (k + 1) else fun k => if k = hl then x else hh k
theorem hlN_le {hl : Nat} (h : hl ≤ 6) : hlN hl ≤ 6 := by unfold hlN; split <;> omega
theorem HI.full {hh : Nat → SC} {hi : Nat → Nat} {x : SC} (h : HI 6 hh hi) : HI (hlN 6) (hhN x 6 hh) (ins (151 * 5) 151 (fla x) (mxn 755 (fun j => hi (j + 151)) hi)) := by
  intro k hk j hj
  have hk : k < 6 := hk
  have e : hhN x 6 hh k = if k = 5 then x else hh (k + 1) := rfl
  rw [e]
  by_cases h5 : k = 5
  · rw [if_pos h5, h5]
    exact ins_in hj
  · rw [if_neg h5, ins_out (by omega), mxn_lo (by omega)]
    show hi (151 * k + j + 151) = _
    rw [show 151 * k + j + 151 = 151 * (k + 1) + j by omega]
    exact h (k + 1) (by omega) j hj
theorem HI.more {hl : Nat} {hh : Nat → SC} {hi : Nat → Nat} {x : SC} (h : HI hl hh hi) (hl6 : hl ≠ 6) : HI (hlN hl) (hhN x hl hh) (ins (151 * hl) 151 (fla x) hi) := by
  intro k hk j hj
  have e1 : hlN hl = hl + 1 := if_neg hl6
  rw [e1] at hk
  have e : hhN x hl hh k = if k = hl then x else hh k := by unfold hhN; rw [if_neg hl6]
  rw [e]
  by_cases h5 : k = hl
  · rw [if_pos h5, h5]
    exact ins_in hj
  · rw [if_neg h5, ins_out (by have : 151 * k + 151 ≤ 151 * hl := by omega
                               omega)]
    exact h k (by omega) j hj
/-- a setting and a value that are in range -/
def okSet (k v : Int32) : Bool := okI 6 k && okI (hv (nN k) + 1) v
theorem okSet_n {k v : Nat} (hk : k < 6) (h : v ≤ hv k) : okSet (nI k) (nI v) = true := by
  have h2 : ∀ j, j < 6 → hv j ≤ 45 := by decide
  have := h2 k hk
  unfold okSet
  rw [okI_n hk (by omega), nN_nI (by omega), okI_n (by omega) (by omega)]
  rfl
def ordN (x : SC) (k v : Nat) : Bool := decide ((if k = 0 then v else scS x 0) < (if k = 1 then v else scS x 1))
theorem sw6 (k : Int32) : k = nI 0 ∨ k = nI 1 ∨ k = nI 2 ∨ k = nI 3 ∨ k = nI 4 ∨ k = nI 5 ∨ (k.toInt < 0 ∨ 5 < k.toInt) := by
  simp only [i_eq, nI_toInt (show 0 < 2 ^ 31 by decide), nI_toInt (show 1 < 2 ^ 31 by decide), nI_toInt (show 2 < 2 ^ 31 by decide), nI_toInt (show 3 < 2 ^ 31 by decide), nI_toInt (show 4 < 2 ^ 31 by decide), nI_toInt (show 5 < 2 ^ 31 by decide)]
  omega
theorem okSet_out {k v : Int32} (h : k.toInt < 0 ∨ 5 < k.toInt) : okSet k v = false := by
  unfold okSet
  have : okI 6 k = false := by
    simp only [okI, decide_eq_false_iff_not]
    omega
  rw [this]; rfl
theorem okSet_k {k : Nat} (hk : k < 6) (v : Int32) : okSet (nI k) v = okI (hv k + 1) v := by
  unfold okSet
  rw [okI_n hk (by omega), nN_nI (by omega)]
  rfl
theorem fla_vF {s f f' b g : Nat → Nat} {c p v : Nat} (hp : p < 48) (hf : ∀ j, upN f p v j = f' j) (j : Nat) : upd (nA (fla (s, f, b, g, c))) (7 + p) (nI v) j = nA (fla (s, f', b, g, c)) j := by
  have e : f' = upN f p v := funext (fun j => (hf j).symm)
  rw [e]
  exact fla_uF (s, f, b, g, c) hp j
theorem fla_vB {s f b b' g : Nat → Nat} {c p v : Nat} (hp : p < 48) (hf : ∀ j, upN b p v j = b' j) (j : Nat) : upd (nA (fla (s, f, b, g, c))) (55 + p) (nI v) j = nA (fla (s, f, b', g, c)) j := by
  have e : b' = upN b p v := funext (fun j => (hf j).symm)
  rw [e]
  exact fla_uB (s, f, b, g, c) hp j
theorem fla_vG {s f b g g' : Nat → Nat} {c p v : Nat} (hp : p < 48) (hf : ∀ j, upN g p v j = g' j) (j : Nat) : upd (nA (fla (s, f, b, g, c))) (103 + p) (nI v) j = nA (fla (s, f, b, g', c)) j := by
  have e : g' = upN g p v := funext (fun j => (hf j).symm)
  rw [e]
  exact fla_uG (s, f, b, g, c) hp j
theorem upN_m {i : Nat} {a b : Nat → Nat} (j : Nat) : upN (mxn i a b) i (a i) j = mxn (i + 1) a b j := by
  unfold mxn upN
  by_cases e : j = i
  · subst e; rw [if_pos rfl, if_pos (by omega)]
  · rw [if_neg e]
    show (if j < i then a j else b j) = _
    by_cases e2 : j < i
    · rw [if_pos e2, if_pos (by omega)]
    · rw [if_neg e2, if_neg (by omega)]
theorem fla_eq {x y : SC} (h1 : ∀ j, j < 6 → scS x j = scS y j) (h2 : ∀ j, j < 48 → scF x j = scF y j) (h3 : ∀ j, j < 48 → scB x j = scB y j) (h4 : ∀ j, j < 48 → scG x j = scG y j) (h5 : scC x = scC y) {j : Nat} (hj : j < 151) : nA (fla x) j = nA (fla y) j := by
  refine congrArg nI ?_
  unfold fla
  split
  · exact h1 j (by omega)
  · split
    · exact h5
    · split
      · exact h2 _ (by omega)
      · split
        · exact h3 _ (by omega)
        · exact h4 _ (by omega)
theorem fla_cF {s f f' b g : Nat → Nat} {c : Nat} (h : ∀ j, j < 48 → f j = f' j) {j : Nat} (hj : j < 151) : nA (fla (s, f, b, g, c)) j = nA (fla (s, f', b, g, c)) j := fla_eq (x := (s, f, b, g, c)) (y := (s, f', b, g, c)) (fun _ _ => rfl) h (fun _ _ => rfl) (fun _ _ => rfl) rfl hj
theorem fla_cB {s f b b' g : Nat → Nat} {c : Nat} (h : ∀ j, j < 48 → b j = b' j) {j : Nat} (hj : j < 151) : nA (fla (s, f, b, g, c)) j = nA (fla (s, f, b', g, c)) j := fla_eq (x := (s, f, b, g, c)) (y := (s, f, b', g, c)) (fun _ _ => rfl) (fun _ _ => rfl) h (fun _ _ => rfl) rfl hj
theorem fla_cG {s f b g g' : Nat → Nat} {c : Nat} (h : ∀ j, j < 48 → g j = g' j) {j : Nat} (hj : j < 151) : nA (fla (s, f, b, g, c)) j = nA (fla (s, f, b, g', c)) j := fla_eq (x := (s, f, b, g, c)) (y := (s, f, b, g', c)) (fun _ _ => rfl) (fun _ _ => rfl) (fun _ _ => rfl) h rfl hj
abbrev rm_c_X5_changes : Room := { frames := 0, cells := 0, slots := 0, locals := 0 }
theorem hd_X5_changes : yX5_changes.cls ≠ "java/lang/invoke/MethodHandle" ∧ yX5_changes.cls ≠ "java/lang/invoke/VarHandle" ∧ (parseMethodDescriptor yX5_changes.desc).map (fun d => d.parameters.length) = some 0 := by decide +kernel
set_option maxRecDepth 100000 in
set_option maxHeartbeats 8000000 in
theorem c_X5_changes (G : VC) (a : Nat → Nat) (hi : Nat → Nat) (sl : Nat → Nat) (sv : Nat → Nat) (r : Nat → Nat) (o : Nat → Nat) (k : Nat → Nat) (t : Nat → Nat) (m : Nat → Nat) (e : Nat → Nat) (w : Nat → Nat) (tx : Nat → Nat) (cl : Nat → Int32) (hl : Nat) (tl : Nat) (sp : Nat) (rd : Nat) (x : SC) (hh : Nat → SC) (hl6 : hl ≤ 6) (hH : HI hl hh hi) : Ctr yX5_changes wsX5_changes rm_c_X5_changes G [.ref (a 0)] (bl [mdW G a (fla x) hi sl sv r o k t m e w tx cl hl tl sp rd]) (fun v9_ u9_ => ∃ gh : Nat → Nat, u9_ = (bl [mdW G a (fla x) gh sl sv r o k t m e w tx cl (hlN hl) tl sp rd]) ∧ v9_ = none ∧ (HI (hlN hl) (hhN x hl hh) gh)) := by
  refine Ctr.void (cc := cX5_changes) (maxL := 2) (lv0 := [some (.ref (a 0)), none]) (by decide) rfl rfl rfl (Nat.le_of_ble_eq_true rfl) (fun A X E hinit hend => ?_)
  refine V.aload_n E dX5_changes_0 rfl rfl ?_
  refine V.getf (C := RX5) (T := TX5) (N := 17) (ref := "GlassSpillModel") E 0 5 2 (by decide +kernel) rfl rfl (by decide) (by decide +kernel) rfl rfl dX5_changes_1 ?_
  refine V.bipush (v := nI (6)) E dX5_changes_4 (by decide) ?_
  refine V.icmp_neN (tgt := 50) E (by omega) (by omega) dX5_changes_6 (by decide) (fun q_6 => ?_) (fun q_6 => ?_)
  · refine V.iconst (v := nI (0)) E dX5_changes_50 (by decide) ?_
    refine V.istore_n (lv' := [some (.ref (a 0)), some (.int (nI (0)))]) E dX5_changes_51 rfl (Nat.le_of_ble_eq_true rfl) rfl rfl ?_
    refine V.arr (f' := nA (ins (151 * hl) 0 (fla x) hi)) (ws' := (bl [mdW G a (fla x) (ins (151 * hl) 0 (fla x) hi) sl sv r o k t m e w tx cl hl tl sp rd])) 2 rfl (fun j _ => ins_0 j) rfl ?_
    refine loopN (P := fun i52 => V G A X rm_c_X5_changes (bl [mdW G a (fla x) (ins (151 * hl) i52 (fla x) hi) sl sv r o k t m e w tx cl hl tl sp rd]) 0 0 52 [some (.ref (a 0)), some (.int (nI (i52)))] []) 151 (fun i52 hi_52 ih_52 => ?_) 0 (Nat.zero_le _)
    refine V.iload_n E dX5_changes_52 rfl rfl ?_
    refine V.sipush (v := nI (151)) E dX5_changes_53 (by decide) ?_
    refine V.icmp_geN (tgt := 86) E (by omega) (by omega) dX5_changes_56 (by decide) (fun q_56 => ?_) (fun q_56 => ?_)
    · obtain rfl : i52 = 151 := by omega
      refine V.aload_n E dX5_changes_86 rfl rfl ?_
      refine V.dup E dX5_changes_87 rfl ?_
      refine V.getf (C := RX5) (T := TX5) (N := 17) (ref := "GlassSpillModel") E 0 5 2 (by decide +kernel) rfl rfl (by decide) (by decide +kernel) rfl rfl dX5_changes_88 ?_
      refine V.iconst (v := nI (1)) E dX5_changes_91 (by decide) ?_
      refine V.iaddN E  dX5_changes_92 ?_
      refine V.topN (b := hlN hl) (by unfold hlN; rw [if_neg q_6]) ?_
      refine V.putf (C := RX5) (T := TX5) (N := 17) (ref := "GlassSpillModel") (ws' := (bl [mdW G a (fla x) (ins (151 * hl) 151 (fla x) hi) sl sv r o k t m e w tx cl (hlN hl) tl sp rd])) E 0 5 2 (by decide +kernel) tyX5_ok nmX5 rfl rfl (by decide) (by decide +kernel) rfl rfl rfl rfl (Nat.le_of_ble_eq_true rfl) dX5_changes_93 rfl ?_
      exact hend _ _ _ dX5_changes_96 ⟨_, rfl, rfl, HI.more hH q_6⟩
    · refine V.aload_n E dX5_changes_59 rfl rfl ?_
      refine V.getf (C := RX5) (T := TX5) (N := 17) (ref := "GlassSpillModel") E 0 5 1 (by decide +kernel) rfl rfl (by decide) (by decide +kernel) rfl rfl dX5_changes_60 ?_
      refine V.sipush (v := nI (151)) E dX5_changes_63 (by decide) ?_
      refine V.aload_n E dX5_changes_66 rfl rfl ?_
      refine V.getf (C := RX5) (T := TX5) (N := 17) (ref := "GlassSpillModel") E 0 5 2 (by decide +kernel) rfl rfl (by decide) (by decide +kernel) rfl rfl dX5_changes_67 ?_
      refine V.imulN E  dX5_changes_70 ?_
      refine V.iload_n E dX5_changes_71 rfl rfl ?_
      refine V.iaddN E  dX5_changes_72 ?_
      refine V.aload_n E dX5_changes_73 rfl rfl ?_
      refine V.getf (C := RX5) (T := TX5) (N := 17) (ref := "GlassSpillModel") E 0 5 0 (by decide +kernel) rfl rfl (by decide) (by decide +kernel) rfl rfl dX5_changes_74 ?_
      refine V.iload_n E dX5_changes_77 rfl rfl ?_
      refine V.ialdN (v := nI (fla x i52)) E 1 rfl (by omega) (by decide) (rfl) dX5_changes_78 ?_
      refine V.iastN (f' := nA (ins (151 * hl) (i52 + 1) (fla x) hi)) (ws' := (bl [mdW G a (fla x) (ins (151 * hl) (i52 + 1) (fla x) hi) sl sv r o k t m e w tx cl hl tl sp rd])) E 2 rfl (by omega) (by decide) dX5_changes_79 (fun j _ => ins_u j) rfl ?_
      refine V.iincN (lv' := [some (.ref (a 0)), some (.int (nI (i52 + 1)))]) E dX5_changes_80 rfl (Nat.le_of_ble_eq_true rfl) rfl rfl ?_
      refine V.goto (tgt := 52) E dX5_changes_83 (by decide) ?_
      exact ih_52 (by omega)
  · subst q_6
    refine V.iconst (v := nI (0)) E dX5_changes_9 (by decide) ?_
    refine V.istore_n (lv' := [some (.ref (a 0)), some (.int (nI (0)))]) E dX5_changes_10 rfl (Nat.le_of_ble_eq_true rfl) rfl rfl ?_
    refine V.arr (f' := nA (mxn 0 (fun j => hi (j + 151)) hi)) (ws' := (bl [mdW G a (fla x) (mxn 0 (fun j => hi (j + 151)) hi) sl sv r o k t m e w tx cl 6 tl sp rd])) 2 rfl (fun j _ => mxn_0 j) rfl ?_
    refine loopN (P := fun i11 => V G A X rm_c_X5_changes (bl [mdW G a (fla x) (mxn i11 (fun j => hi (j + 151)) hi) sl sv r o k t m e w tx cl 6 tl sp rd]) 0 0 11 [some (.ref (a 0)), some (.int (nI (i11)))] []) 755 (fun i11 hi_11 ih_11 => ?_) 0 (Nat.zero_le _)
    refine V.iload_n E dX5_changes_11 rfl rfl ?_
    refine V.sipush (v := nI (755)) E dX5_changes_12 (by decide) ?_
    refine V.icmp_geN (tgt := 40) E (by omega) (by omega) dX5_changes_15 (by decide) (fun q_15 => ?_) (fun q_15 => ?_)
    · obtain rfl : i11 = 755 := by omega
      refine V.aload_n E dX5_changes_40 rfl rfl ?_
      refine V.dup E dX5_changes_41 rfl ?_
      refine V.getf (C := RX5) (T := TX5) (N := 17) (ref := "GlassSpillModel") E 0 5 2 (by decide +kernel) rfl rfl (by decide) (by decide +kernel) rfl rfl dX5_changes_42 ?_
      refine V.iconst (v := nI (1)) E dX5_changes_45 (by decide) ?_
      refine V.isubN E (by omega) dX5_changes_46 ?_
      refine V.putf (C := RX5) (T := TX5) (N := 17) (ref := "GlassSpillModel") (ws' := (bl [mdW G a (fla x) (mxn 755 (fun j => hi (j + 151)) hi) sl sv r o k t m e w tx cl 5 tl sp rd])) E 0 5 2 (by decide +kernel) tyX5_ok nmX5 rfl rfl (by decide) (by decide +kernel) rfl rfl rfl rfl (Nat.le_of_ble_eq_true rfl) dX5_changes_47 rfl ?_
      refine V.iconst (v := nI (0)) E dX5_changes_50 (by decide) ?_
      refine V.istore_n (lv' := [some (.ref (a 0)), some (.int (nI (0)))]) E dX5_changes_51 rfl (Nat.le_of_ble_eq_true rfl) rfl rfl ?_
      refine V.arr (f' := nA (ins (151 * 5) 0 (fla x) (mxn 755 (fun j => hi (j + 151)) hi))) (ws' := (bl [mdW G a (fla x) (ins (151 * 5) 0 (fla x) (mxn 755 (fun j => hi (j + 151)) hi)) sl sv r o k t m e w tx cl 5 tl sp rd])) 2 rfl (fun j _ => ins_0 j) rfl ?_
      refine loopN (P := fun i52 => V G A X rm_c_X5_changes (bl [mdW G a (fla x) (ins (151 * 5) i52 (fla x) (mxn 755 (fun j => hi (j + 151)) hi)) sl sv r o k t m e w tx cl 5 tl sp rd]) 0 0 52 [some (.ref (a 0)), some (.int (nI (i52)))] []) 151 (fun i52 hi_52 ih_52 => ?_) 0 (Nat.zero_le _)
      refine V.iload_n E dX5_changes_52 rfl rfl ?_
      refine V.sipush (v := nI (151)) E dX5_changes_53 (by decide) ?_
      refine V.icmp_geN (tgt := 86) E (by omega) (by omega) dX5_changes_56 (by decide) (fun q_56 => ?_) (fun q_56 => ?_)
      · obtain rfl : i52 = 151 := by omega
        refine V.aload_n E dX5_changes_86 rfl rfl ?_
        refine V.dup E dX5_changes_87 rfl ?_
        refine V.getf (C := RX5) (T := TX5) (N := 17) (ref := "GlassSpillModel") E 0 5 2 (by decide +kernel) rfl rfl (by decide) (by decide +kernel) rfl rfl dX5_changes_88 ?_
        refine V.iconst (v := nI (1)) E dX5_changes_91 (by decide) ?_
        refine V.iaddN E  dX5_changes_92 ?_
        refine V.topN (b := hlN 6) (rfl) ?_
        refine V.putf (C := RX5) (T := TX5) (N := 17) (ref := "GlassSpillModel") (ws' := (bl [mdW G a (fla x) (ins (151 * 5) 151 (fla x) (mxn 755 (fun j => hi (j + 151)) hi)) sl sv r o k t m e w tx cl (hlN 6) tl sp rd])) E 0 5 2 (by decide +kernel) tyX5_ok nmX5 rfl rfl (by decide) (by decide +kernel) rfl rfl rfl rfl (Nat.le_of_ble_eq_true rfl) dX5_changes_93 rfl ?_
        exact hend _ _ _ dX5_changes_96 ⟨_, rfl, rfl, HI.full hH⟩
      · refine V.aload_n E dX5_changes_59 rfl rfl ?_
        refine V.getf (C := RX5) (T := TX5) (N := 17) (ref := "GlassSpillModel") E 0 5 1 (by decide +kernel) rfl rfl (by decide) (by decide +kernel) rfl rfl dX5_changes_60 ?_
        refine V.sipush (v := nI (151)) E dX5_changes_63 (by decide) ?_
        refine V.aload_n E dX5_changes_66 rfl rfl ?_
        refine V.getf (C := RX5) (T := TX5) (N := 17) (ref := "GlassSpillModel") E 0 5 2 (by decide +kernel) rfl rfl (by decide) (by decide +kernel) rfl rfl dX5_changes_67 ?_
        refine V.imulN E  dX5_changes_70 ?_
        refine V.iload_n E dX5_changes_71 rfl rfl ?_
        refine V.iaddN E  dX5_changes_72 ?_
        refine V.aload_n E dX5_changes_73 rfl rfl ?_
        refine V.getf (C := RX5) (T := TX5) (N := 17) (ref := "GlassSpillModel") E 0 5 0 (by decide +kernel) rfl rfl (by decide) (by decide +kernel) rfl rfl dX5_changes_74 ?_
        refine V.iload_n E dX5_changes_77 rfl rfl ?_
        refine V.ialdN (v := nI (fla x i52)) E 1 rfl (by omega) (by decide) (rfl) dX5_changes_78 ?_
        refine V.iastN (f' := nA (ins (151 * 5) (i52 + 1) (fla x) (mxn 755 (fun j => hi (j + 151)) hi))) (ws' := (bl [mdW G a (fla x) (ins (151 * 5) (i52 + 1) (fla x) (mxn 755 (fun j => hi (j + 151)) hi)) sl sv r o k t m e w tx cl 5 tl sp rd])) E 2 rfl (by omega) (by decide) dX5_changes_79 (fun j _ => ins_u j) rfl ?_
        refine V.iincN (lv' := [some (.ref (a 0)), some (.int (nI (i52 + 1)))]) E dX5_changes_80 rfl (Nat.le_of_ble_eq_true rfl) rfl rfl ?_
        refine V.goto (tgt := 52) E dX5_changes_83 (by decide) ?_
        exact ih_52 (by omega)
    · refine V.aload_n E dX5_changes_18 rfl rfl ?_
      refine V.getf (C := RX5) (T := TX5) (N := 17) (ref := "GlassSpillModel") E 0 5 1 (by decide +kernel) rfl rfl (by decide) (by decide +kernel) rfl rfl dX5_changes_19 ?_
      refine V.iload_n E dX5_changes_22 rfl rfl ?_
      refine V.aload_n E dX5_changes_23 rfl rfl ?_
      refine V.getf (C := RX5) (T := TX5) (N := 17) (ref := "GlassSpillModel") E 0 5 1 (by decide +kernel) rfl rfl (by decide) (by decide +kernel) rfl rfl dX5_changes_24 ?_
      refine V.iload_n E dX5_changes_27 rfl rfl ?_
      refine V.sipush (v := nI (151)) E dX5_changes_28 (by decide) ?_
      refine V.iaddN E  dX5_changes_31 ?_
      refine V.ialdN (v := nI (hi (i11 + 151))) E 2 rfl (by omega) (by decide) (congrArg nI mxn_o) dX5_changes_32 ?_
      refine V.iastN (f' := nA (mxn (i11 + 1) (fun j => hi (j + 151)) hi)) (ws' := (bl [mdW G a (fla x) (mxn (i11 + 1) (fun j => hi (j + 151)) hi) sl sv r o k t m e w tx cl 6 tl sp rd])) E 2 rfl (by omega) (by decide) dX5_changes_33 (fun j _ => mxn_u rfl j) rfl ?_
      refine V.iincN (lv' := [some (.ref (a 0)), some (.int (nI (i11 + 1)))]) E dX5_changes_34 rfl (Nat.le_of_ble_eq_true rfl) rfl rfl ?_
      refine V.goto (tgt := 11) E dX5_changes_37 (by decide) ?_
      exact ih_11 (by omega)
abbrev rm_c_X5_isColour : Room := { frames := 1, cells := 0, slots := 0, locals := 25 }
theorem hd_X5_isColour : yX5_isColour.cls ≠ "java/lang/invoke/MethodHandle" ∧ yX5_isColour.cls ≠ "java/lang/invoke/VarHandle" ∧ (parseMethodDescriptor yX5_isColour.desc).map (fun d => d.parameters.length) = some 1 := by decide +kernel
set_option maxRecDepth 100000 in
set_option maxHeartbeats 8000000 in
theorem c_X5_isColour (G : VC) (x : Int32) : Ctr yX5_isColour wsX5_isColour rm_c_X5_isColour G [.int (x)] (bl []) (fun v9_ u9_ => u9_ = (bl []) ∧ v9_ = some (.int (nI (bN (okI 4096 x))))) := by
  refine Ctr.int (cc := cX5_isColour) (maxL := 1) (ret := (some .boolean)) (lv0 := [some (.int (x))]) (by decide) rfl rfl rfl (Nat.le_of_ble_eq_true rfl) rfl (fun A X E hend => ?_)
  refine V.iload_n E dX5_isColour_0 rfl rfl ?_
  refine V.i2l E dX5_isColour_1 rfl ?_
  refine V.lconst (v := 0) E dX5_isColour_2 (by decide) ?_
  refine V.ldc2 (v := 4095) E (by decide +kernel) dX5_isColour_3 ?_
  refine V.callS E (c_X5_in G x.toInt64 ((0 : Int64)) ((4095 : Int64)) ) (bl []) [] gX5_isColour_X5_in rfl hd_X5_in ⟨⟨Nat.le_of_ble_eq_true rfl, Nat.le_of_ble_eq_true rfl⟩, Nat.le_of_ble_eq_true rfl, Nat.le_of_ble_eq_true rfl⟩ rfl (Nat.le_of_ble_eq_true rfl) rfl dX5_isColour_6 (List.Perm.refl _) (kc' := 0) (ks' := 0) rfl rfl (rwI (ws' := (bl [])) (List.Perm.refl _) ?_)
  refine V.topN (b := bN (okI 4096 x)) (congrArg bN (inL_ok _ (n := 4095) (by decide))) ?_
  exact hend _ _ _ _ dX5_isColour_9 (nrB _) ⟨rfl, rfl⟩
abbrev rm_c_X5_isPixel : Room := { frames := 1, cells := 0, slots := 0, locals := 25 }
theorem hd_X5_isPixel : yX5_isPixel.cls ≠ "java/lang/invoke/MethodHandle" ∧ yX5_isPixel.cls ≠ "java/lang/invoke/VarHandle" ∧ (parseMethodDescriptor yX5_isPixel.desc).map (fun d => d.parameters.length) = some 1 := by decide +kernel
set_option maxRecDepth 100000 in
set_option maxHeartbeats 8000000 in
theorem c_X5_isPixel (G : VC) (x : Int32) : Ctr yX5_isPixel wsX5_isPixel rm_c_X5_isPixel G [.int (x)] (bl []) (fun v9_ u9_ => u9_ = (bl []) ∧ v9_ = some (.int (nI (bN (okI 48 x))))) := by
  refine Ctr.int (cc := cX5_isPixel) (maxL := 1) (ret := (some .boolean)) (lv0 := [some (.int (x))]) (by decide) rfl rfl rfl (Nat.le_of_ble_eq_true rfl) rfl (fun A X E hend => ?_)
  refine V.iload_n E dX5_isPixel_0 rfl rfl ?_
  refine V.i2l E dX5_isPixel_1 rfl ?_
  refine V.lconst (v := 0) E dX5_isPixel_2 (by decide) ?_
  refine V.ldc2 (v := 47) E (by decide +kernel) dX5_isPixel_3 ?_
  refine V.callS E (c_X5_in G x.toInt64 ((0 : Int64)) ((47 : Int64)) ) (bl []) [] gX5_isPixel_X5_in rfl hd_X5_in ⟨⟨Nat.le_of_ble_eq_true rfl, Nat.le_of_ble_eq_true rfl⟩, Nat.le_of_ble_eq_true rfl, Nat.le_of_ble_eq_true rfl⟩ rfl (Nat.le_of_ble_eq_true rfl) rfl dX5_isPixel_6 (List.Perm.refl _) (kc' := 0) (ks' := 0) rfl rfl (rwI (ws' := (bl [])) (List.Perm.refl _) ?_)
  refine V.topN (b := bN (okI 48 x)) (congrArg bN (inL_ok _ (n := 47) (by decide))) ?_
  exact hend _ _ _ _ dX5_isPixel_9 (nrB _) ⟨rfl, rfl⟩
abbrev rm_c_X5_isSetting : Room := { frames := 1, cells := 0, slots := 0, locals := 25 }
theorem hd_X5_isSetting : yX5_isSetting.cls ≠ "java/lang/invoke/MethodHandle" ∧ yX5_isSetting.cls ≠ "java/lang/invoke/VarHandle" ∧ (parseMethodDescriptor yX5_isSetting.desc).map (fun d => d.parameters.length) = some 2 := by decide +kernel
set_option maxRecDepth 100000 in
set_option maxHeartbeats 8000000 in
theorem c_X5_isSetting (G : VC) (k : Int32) (v : Int32) : Ctr yX5_isSetting wsX5_isSetting rm_c_X5_isSetting G [.int (k), .int (v)] (bl []) (fun v9_ u9_ => u9_ = (bl []) ∧ v9_ = some (.int (nI (bN (okSet k v))))) := by
  refine Ctr.int (cc := cX5_isSetting) (maxL := 2) (ret := (some .boolean)) (lv0 := [some (.int (k)), some (.int (v))]) (by decide) rfl rfl rfl (Nat.le_of_ble_eq_true rfl) rfl (fun A X E hend => ?_)
  refine V.iload_n E dX5_isSetting_0 rfl rfl ?_
  rcases sw6 k with rfl | rfl | rfl | rfl | rfl | rfl | h_
  · refine V.tableIn (off := 39) (tgt := 40) E dX5_isSetting_1 (by decide) (by decide) (by decide) (by decide) ?_
    refine V.iload_n E dX5_isSetting_40 rfl rfl ?_
    refine V.i2l E dX5_isSetting_41 rfl ?_
    refine V.lconst (v := 0) E dX5_isSetting_42 (by decide) ?_
    refine V.ldc2 (v := 45) E (by decide +kernel) dX5_isSetting_43 ?_
    refine V.callS E (c_X5_in G v.toInt64 ((0 : Int64)) ((45 : Int64)) ) (bl []) [] gX5_isSetting_X5_in rfl hd_X5_in ⟨⟨Nat.le_of_ble_eq_true rfl, Nat.le_of_ble_eq_true rfl⟩, Nat.le_of_ble_eq_true rfl, Nat.le_of_ble_eq_true rfl⟩ rfl (Nat.le_of_ble_eq_true rfl) rfl dX5_isSetting_46 (List.Perm.refl _) (kc' := 0) (ks' := 0) rfl rfl (rwI (ws' := (bl [])) (List.Perm.refl _) ?_)
    refine V.topN (b := bN (okSet (nI 0) v)) (congrArg bN ((inL_ok v (n := 45) (by decide)).trans (okSet_k (k := 0) (by decide) v).symm)) ?_
    exact hend _ _ _ _ dX5_isSetting_49 (nrB _) ⟨rfl, rfl⟩
  · refine V.tableIn (off := 39) (tgt := 40) E dX5_isSetting_1 (by decide) (by decide) (by decide) (by decide) ?_
    refine V.iload_n E dX5_isSetting_40 rfl rfl ?_
    refine V.i2l E dX5_isSetting_41 rfl ?_
    refine V.lconst (v := 0) E dX5_isSetting_42 (by decide) ?_
    refine V.ldc2 (v := 45) E (by decide +kernel) dX5_isSetting_43 ?_
    refine V.callS E (c_X5_in G v.toInt64 ((0 : Int64)) ((45 : Int64)) ) (bl []) [] gX5_isSetting_X5_in rfl hd_X5_in ⟨⟨Nat.le_of_ble_eq_true rfl, Nat.le_of_ble_eq_true rfl⟩, Nat.le_of_ble_eq_true rfl, Nat.le_of_ble_eq_true rfl⟩ rfl (Nat.le_of_ble_eq_true rfl) rfl dX5_isSetting_46 (List.Perm.refl _) (kc' := 0) (ks' := 0) rfl rfl (rwI (ws' := (bl [])) (List.Perm.refl _) ?_)
    refine V.topN (b := bN (okSet (nI 1) v)) (congrArg bN ((inL_ok v (n := 45) (by decide)).trans (okSet_k (k := 1) (by decide) v).symm)) ?_
    exact hend _ _ _ _ dX5_isSetting_49 (nrB _) ⟨rfl, rfl⟩
  · refine V.tableIn (off := 49) (tgt := 50) E dX5_isSetting_1 (by decide) (by decide) (by decide) (by decide) ?_
    refine V.iload_n E dX5_isSetting_50 rfl rfl ?_
    refine V.i2l E dX5_isSetting_51 rfl ?_
    refine V.lconst (v := 0) E dX5_isSetting_52 (by decide) ?_
    refine V.ldc2 (v := 16) E (by decide +kernel) dX5_isSetting_53 ?_
    refine V.callS E (c_X5_in G v.toInt64 ((0 : Int64)) ((16 : Int64)) ) (bl []) [] gX5_isSetting_X5_in rfl hd_X5_in ⟨⟨Nat.le_of_ble_eq_true rfl, Nat.le_of_ble_eq_true rfl⟩, Nat.le_of_ble_eq_true rfl, Nat.le_of_ble_eq_true rfl⟩ rfl (Nat.le_of_ble_eq_true rfl) rfl dX5_isSetting_56 (List.Perm.refl _) (kc' := 0) (ks' := 0) rfl rfl (rwI (ws' := (bl [])) (List.Perm.refl _) ?_)
    refine V.topN (b := bN (okSet (nI 2) v)) (congrArg bN ((inL_ok v (n := 16) (by decide)).trans (okSet_k (k := 2) (by decide) v).symm)) ?_
    exact hend _ _ _ _ dX5_isSetting_59 (nrB _) ⟨rfl, rfl⟩
  · refine V.tableIn (off := 49) (tgt := 50) E dX5_isSetting_1 (by decide) (by decide) (by decide) (by decide) ?_
    refine V.iload_n E dX5_isSetting_50 rfl rfl ?_
    refine V.i2l E dX5_isSetting_51 rfl ?_
    refine V.lconst (v := 0) E dX5_isSetting_52 (by decide) ?_
    refine V.ldc2 (v := 16) E (by decide +kernel) dX5_isSetting_53 ?_
    refine V.callS E (c_X5_in G v.toInt64 ((0 : Int64)) ((16 : Int64)) ) (bl []) [] gX5_isSetting_X5_in rfl hd_X5_in ⟨⟨Nat.le_of_ble_eq_true rfl, Nat.le_of_ble_eq_true rfl⟩, Nat.le_of_ble_eq_true rfl, Nat.le_of_ble_eq_true rfl⟩ rfl (Nat.le_of_ble_eq_true rfl) rfl dX5_isSetting_56 (List.Perm.refl _) (kc' := 0) (ks' := 0) rfl rfl (rwI (ws' := (bl [])) (List.Perm.refl _) ?_)
    refine V.topN (b := bN (okSet (nI 3) v)) (congrArg bN ((inL_ok v (n := 16) (by decide)).trans (okSet_k (k := 3) (by decide) v).symm)) ?_
    exact hend _ _ _ _ dX5_isSetting_59 (nrB _) ⟨rfl, rfl⟩
  · refine V.tableIn (off := 49) (tgt := 50) E dX5_isSetting_1 (by decide) (by decide) (by decide) (by decide) ?_
    refine V.iload_n E dX5_isSetting_50 rfl rfl ?_
    refine V.i2l E dX5_isSetting_51 rfl ?_
    refine V.lconst (v := 0) E dX5_isSetting_52 (by decide) ?_
    refine V.ldc2 (v := 16) E (by decide +kernel) dX5_isSetting_53 ?_
    refine V.callS E (c_X5_in G v.toInt64 ((0 : Int64)) ((16 : Int64)) ) (bl []) [] gX5_isSetting_X5_in rfl hd_X5_in ⟨⟨Nat.le_of_ble_eq_true rfl, Nat.le_of_ble_eq_true rfl⟩, Nat.le_of_ble_eq_true rfl, Nat.le_of_ble_eq_true rfl⟩ rfl (Nat.le_of_ble_eq_true rfl) rfl dX5_isSetting_56 (List.Perm.refl _) (kc' := 0) (ks' := 0) rfl rfl (rwI (ws' := (bl [])) (List.Perm.refl _) ?_)
    refine V.topN (b := bN (okSet (nI 4) v)) (congrArg bN ((inL_ok v (n := 16) (by decide)).trans (okSet_k (k := 4) (by decide) v).symm)) ?_
    exact hend _ _ _ _ dX5_isSetting_59 (nrB _) ⟨rfl, rfl⟩
  · refine V.tableIn (off := 59) (tgt := 60) E dX5_isSetting_1 (by decide) (by decide) (by decide) (by decide) ?_
    refine V.iload_n E dX5_isSetting_60 rfl rfl ?_
    refine V.i2l E dX5_isSetting_61 rfl ?_
    refine V.lconst (v := 0) E dX5_isSetting_62 (by decide) ?_
    refine V.lconst (v := 1) E dX5_isSetting_63 (by decide) ?_
    refine V.callS E (c_X5_in G v.toInt64 ((0 : Int64)) ((1 : Int64)) ) (bl []) [] gX5_isSetting_X5_in rfl hd_X5_in ⟨⟨Nat.le_of_ble_eq_true rfl, Nat.le_of_ble_eq_true rfl⟩, Nat.le_of_ble_eq_true rfl, Nat.le_of_ble_eq_true rfl⟩ rfl (Nat.le_of_ble_eq_true rfl) rfl dX5_isSetting_64 (List.Perm.refl _) (kc' := 0) (ks' := 0) rfl rfl (rwI (ws' := (bl [])) (List.Perm.refl _) ?_)
    refine V.topN (b := bN (okSet (nI 5) v)) (congrArg bN ((inL_ok v (n := 1) (by decide)).trans (okSet_k (k := 5) (by decide) v).symm)) ?_
    exact hend _ _ _ _ dX5_isSetting_67 (nrB _) ⟨rfl, rfl⟩
  · refine V.tableOut (tgt := 68) E dX5_isSetting_1 (h_) (by decide) ?_
    refine V.iconst (v := nI (0)) E dX5_isSetting_68 (by decide) ?_
    refine V.topN (b := bN (okSet k v)) (by rw [okSet_out h_]; rfl) ?_
    exact hend _ _ _ _ dX5_isSetting_69 (nrB _) ⟨rfl, rfl⟩
abbrev rm_c_X5_isOrdered : Room := { frames := 0, cells := 0, slots := 0, locals := 0 }
theorem hd_X5_isOrdered : yX5_isOrdered.cls ≠ "java/lang/invoke/MethodHandle" ∧ yX5_isOrdered.cls ≠ "java/lang/invoke/VarHandle" ∧ (parseMethodDescriptor yX5_isOrdered.desc).map (fun d => d.parameters.length) = some 2 := by decide +kernel
set_option maxRecDepth 100000 in
set_option maxHeartbeats 8000000 in
theorem c_X5_isOrdered (G : VC) (a : Nat → Nat) (hi : Nat → Nat) (sl : Nat → Nat) (sv : Nat → Nat) (r : Nat → Nat) (o : Nat → Nat) (k : Nat → Nat) (t : Nat → Nat) (m : Nat → Nat) (e : Nat → Nat) (w : Nat → Nat) (tx : Nat → Nat) (cl : Nat → Int32) (hl : Nat) (tl : Nat) (sp : Nat) (rd : Nat) (x : SC) (k_ : Nat) (v_ : Nat) (hx : SInv x) (hk : k_ < 6) (hv_ : v_ ≤ 45) : Ctr yX5_isOrdered wsX5_isOrdered rm_c_X5_isOrdered G [.ref (a 0), .int (nI (k_)), .int (nI (v_))] (bl [mdW G a (fla x) hi sl sv r o k t m e w tx cl hl tl sp rd]) (fun v9_ u9_ => u9_ = (bl [mdW G a (fla x) hi sl sv r o k t m e w tx cl hl tl sp rd]) ∧ v9_ = some (.int (nI (bN (ordN x k_ v_))))) := by
  refine Ctr.int (cc := cX5_isOrdered) (maxL := 5) (ret := (some .boolean)) (lv0 := [some (.ref (a 0)), some (.int (nI (k_))), some (.int (nI (v_))), none, none]) (by decide) rfl rfl rfl (Nat.le_of_ble_eq_true rfl) rfl (fun A X E hend => ?_)
  refine V.iload_n E dX5_isOrdered_0 rfl rfl ?_
  refine V.if_neN (tgt := 8) E (by omega) dX5_isOrdered_1 (by decide) (fun q_1 => ?_) (fun q_1 => ?_)
  · refine V.aload_n E dX5_isOrdered_8 rfl rfl ?_
    refine V.getf (C := RX5) (T := TX5) (N := 17) (ref := "GlassSpillModel") E 0 5 0 (by decide +kernel) rfl rfl (by decide) (by decide +kernel) rfl rfl dX5_isOrdered_9 ?_
    refine V.iconst (v := nI (0)) E dX5_isOrdered_12 (by decide) ?_
    refine V.ialdN (v := nI (scS x 0)) E 1 rfl (by omega) (by decide) (congrArg nI (fla_S _ (by decide))) dX5_isOrdered_13 ?_
    refine V.istore_n (lv' := [some (.ref (a 0)), some (.int (nI (k_))), some (.int (nI (v_))), some (.int (nI (scS x 0))), none]) E dX5_isOrdered_14 rfl (Nat.le_of_ble_eq_true rfl) rfl rfl ?_
    refine V.iload_n E dX5_isOrdered_15 rfl rfl ?_
    refine V.iconst (v := nI (1)) E dX5_isOrdered_16 (by decide) ?_
    refine V.icmp_neN (tgt := 24) E (by omega) (by omega) dX5_isOrdered_17 (by decide) (fun q_17 => ?_) (fun q_17 => ?_)
    · refine V.aload_n E dX5_isOrdered_24 rfl rfl ?_
      refine V.getf (C := RX5) (T := TX5) (N := 17) (ref := "GlassSpillModel") E 0 5 0 (by decide +kernel) rfl rfl (by decide) (by decide +kernel) rfl rfl dX5_isOrdered_25 ?_
      refine V.iconst (v := nI (1)) E dX5_isOrdered_28 (by decide) ?_
      refine V.ialdN (v := nI (scS x 1)) E 1 rfl (by omega) (by decide) (congrArg nI (fla_S _ (by decide))) dX5_isOrdered_29 ?_
      refine V.istore (lv' := [some (.ref (a 0)), some (.int (nI (k_))), some (.int (nI (v_))), some (.int (nI (scS x 0))), some (.int (nI (scS x 1)))]) E dX5_isOrdered_30 (Nat.le_of_ble_eq_true rfl) rfl rfl ?_
      refine V.iload_n E dX5_isOrdered_32 rfl rfl ?_
      refine V.iload E dX5_isOrdered_33 rfl ?_
      refine V.icmp_geN (tgt := 42) E (by have := hx.s0; omega) (by have := hx.s1; omega) dX5_isOrdered_35 (by decide) (fun q_35 => ?_) (fun q_35 => ?_)
      · refine V.iconst (v := nI (0)) E dX5_isOrdered_42 (by decide) ?_
        refine V.topN (b := bN (ordN x k_ v_)) (by unfold ordN; first | (rw [decide_eq_true (by (repeat' split) <;> omega)]; rfl) | (rw [decide_eq_false (by (repeat' split) <;> omega)]; rfl)) ?_
        exact hend _ _ _ _ dX5_isOrdered_43 (nrB _) ⟨rfl, rfl⟩
      · refine V.iconst (v := nI (1)) E dX5_isOrdered_38 (by decide) ?_
        refine V.goto (tgt := 43) E dX5_isOrdered_39 (by decide) ?_
        refine V.topN (b := bN (ordN x k_ v_)) (by unfold ordN; first | (rw [decide_eq_true (by (repeat' split) <;> omega)]; rfl) | (rw [decide_eq_false (by (repeat' split) <;> omega)]; rfl)) ?_
        exact hend _ _ _ _ dX5_isOrdered_43 (nrB _) ⟨rfl, rfl⟩
    · refine V.iload_n E dX5_isOrdered_20 rfl rfl ?_
      refine V.goto (tgt := 30) E dX5_isOrdered_21 (by decide) ?_
      refine V.istore (lv' := [some (.ref (a 0)), some (.int (nI (k_))), some (.int (nI (v_))), some (.int (nI (scS x 0))), some (.int (nI (v_)))]) E dX5_isOrdered_30 (Nat.le_of_ble_eq_true rfl) rfl rfl ?_
      refine V.iload_n E dX5_isOrdered_32 rfl rfl ?_
      refine V.iload E dX5_isOrdered_33 rfl ?_
      refine V.icmp_geN (tgt := 42) E (by have := hx.s0; omega) (by have := hx.s1; omega) dX5_isOrdered_35 (by decide) (fun q_35 => ?_) (fun q_35 => ?_)
      · refine V.iconst (v := nI (0)) E dX5_isOrdered_42 (by decide) ?_
        refine V.topN (b := bN (ordN x k_ v_)) (by unfold ordN; first | (rw [decide_eq_true (by (repeat' split) <;> omega)]; rfl) | (rw [decide_eq_false (by (repeat' split) <;> omega)]; rfl)) ?_
        exact hend _ _ _ _ dX5_isOrdered_43 (nrB _) ⟨rfl, rfl⟩
      · refine V.iconst (v := nI (1)) E dX5_isOrdered_38 (by decide) ?_
        refine V.goto (tgt := 43) E dX5_isOrdered_39 (by decide) ?_
        refine V.topN (b := bN (ordN x k_ v_)) (by unfold ordN; first | (rw [decide_eq_true (by (repeat' split) <;> omega)]; rfl) | (rw [decide_eq_false (by (repeat' split) <;> omega)]; rfl)) ?_
        exact hend _ _ _ _ dX5_isOrdered_43 (nrB _) ⟨rfl, rfl⟩
  · refine V.iload_n E dX5_isOrdered_4 rfl rfl ?_
    refine V.goto (tgt := 14) E dX5_isOrdered_5 (by decide) ?_
    refine V.istore_n (lv' := [some (.ref (a 0)), some (.int (nI (k_))), some (.int (nI (v_))), some (.int (nI (v_))), none]) E dX5_isOrdered_14 rfl (Nat.le_of_ble_eq_true rfl) rfl rfl ?_
    refine V.iload_n E dX5_isOrdered_15 rfl rfl ?_
    refine V.iconst (v := nI (1)) E dX5_isOrdered_16 (by decide) ?_
    refine V.icmp_neN (tgt := 24) E (by omega) (by omega) dX5_isOrdered_17 (by decide) (fun q_17 => ?_) (fun q_17 => ?_)
    · refine V.aload_n E dX5_isOrdered_24 rfl rfl ?_
      refine V.getf (C := RX5) (T := TX5) (N := 17) (ref := "GlassSpillModel") E 0 5 0 (by decide +kernel) rfl rfl (by decide) (by decide +kernel) rfl rfl dX5_isOrdered_25 ?_
      refine V.iconst (v := nI (1)) E dX5_isOrdered_28 (by decide) ?_
      refine V.ialdN (v := nI (scS x 1)) E 1 rfl (by omega) (by decide) (congrArg nI (fla_S _ (by decide))) dX5_isOrdered_29 ?_
      refine V.istore (lv' := [some (.ref (a 0)), some (.int (nI (k_))), some (.int (nI (v_))), some (.int (nI (v_))), some (.int (nI (scS x 1)))]) E dX5_isOrdered_30 (Nat.le_of_ble_eq_true rfl) rfl rfl ?_
      refine V.iload_n E dX5_isOrdered_32 rfl rfl ?_
      refine V.iload E dX5_isOrdered_33 rfl ?_
      refine V.icmp_geN (tgt := 42) E (by have := hx.s0; omega) (by have := hx.s1; omega) dX5_isOrdered_35 (by decide) (fun q_35 => ?_) (fun q_35 => ?_)
      · refine V.iconst (v := nI (0)) E dX5_isOrdered_42 (by decide) ?_
        refine V.topN (b := bN (ordN x k_ v_)) (by unfold ordN; first | (rw [decide_eq_true (by (repeat' split) <;> omega)]; rfl) | (rw [decide_eq_false (by (repeat' split) <;> omega)]; rfl)) ?_
        exact hend _ _ _ _ dX5_isOrdered_43 (nrB _) ⟨rfl, rfl⟩
      · refine V.iconst (v := nI (1)) E dX5_isOrdered_38 (by decide) ?_
        refine V.goto (tgt := 43) E dX5_isOrdered_39 (by decide) ?_
        refine V.topN (b := bN (ordN x k_ v_)) (by unfold ordN; first | (rw [decide_eq_true (by (repeat' split) <;> omega)]; rfl) | (rw [decide_eq_false (by (repeat' split) <;> omega)]; rfl)) ?_
        exact hend _ _ _ _ dX5_isOrdered_43 (nrB _) ⟨rfl, rfl⟩
    · refine V.iload_n E dX5_isOrdered_20 rfl rfl ?_
      refine V.goto (tgt := 30) E dX5_isOrdered_21 (by decide) ?_
      refine V.istore (lv' := [some (.ref (a 0)), some (.int (nI (k_))), some (.int (nI (v_))), some (.int (nI (v_))), some (.int (nI (v_)))]) E dX5_isOrdered_30 (Nat.le_of_ble_eq_true rfl) rfl rfl ?_
      refine V.iload_n E dX5_isOrdered_32 rfl rfl ?_
      refine V.iload E dX5_isOrdered_33 rfl ?_
      refine V.icmp_geN (tgt := 42) E (by have := hx.s0; omega) (by have := hx.s1; omega) dX5_isOrdered_35 (by decide) (fun q_35 => ?_) (fun q_35 => ?_)
      · refine V.iconst (v := nI (0)) E dX5_isOrdered_42 (by decide) ?_
        refine V.topN (b := bN (ordN x k_ v_)) (by unfold ordN; first | (rw [decide_eq_true (by (repeat' split) <;> omega)]; rfl) | (rw [decide_eq_false (by (repeat' split) <;> omega)]; rfl)) ?_
        exact hend _ _ _ _ dX5_isOrdered_43 (nrB _) ⟨rfl, rfl⟩
      · refine V.iconst (v := nI (1)) E dX5_isOrdered_38 (by decide) ?_
        refine V.goto (tgt := 43) E dX5_isOrdered_39 (by decide) ?_
        refine V.topN (b := bN (ordN x k_ v_)) (by unfold ordN; first | (rw [decide_eq_true (by (repeat' split) <;> omega)]; rfl) | (rw [decide_eq_false (by (repeat' split) <;> omega)]; rfl)) ?_
        exact hend _ _ _ _ dX5_isOrdered_43 (nrB _) ⟨rfl, rfl⟩
abbrev rm_c_X5_picture_t : Room := { frames := 0, cells := 0, slots := 0, locals := 0 }
theorem hd_X5_picture : yX5_picture.cls ≠ "java/lang/invoke/MethodHandle" ∧ yX5_picture.cls ≠ "java/lang/invoke/VarHandle" ∧ (parseMethodDescriptor yX5_picture.desc).map (fun d => d.parameters.length) = some 1 := by decide +kernel
set_option maxRecDepth 100000 in
set_option maxHeartbeats 8000000 in
theorem c_X5_picture_t (G : VC) : Ctr yX5_picture wsX5_picture rm_c_X5_picture_t G [.int (nI (bN true))] (bl []) (fun v9_ u9_ => u9_ = (bl []) ∧ v9_ = some (.int (nI (7)))) := by
  refine Ctr.int (cc := cX5_picture) (maxL := 1) (ret := (some .int)) (lv0 := [some (.int (nI (bN true)))]) (by decide) rfl rfl rfl (Nat.le_of_ble_eq_true rfl) rfl (fun A X E hend => ?_)
  refine V.iload_n E dX5_picture_0 rfl rfl ?_
  refine V.if_eqB (tgt := 9) E dX5_picture_1 (by decide) (fun q_1 => ?_) (fun q_1 => ?_)
  · exact absurd q_1 (by decide)
  · refine V.bipush (v := nI (7)) E dX5_picture_4 (by decide) ?_
    refine V.goto (tgt := 11) E dX5_picture_6 (by decide) ?_
    exact hend _ _ _ _ dX5_picture_11 (nrI _) ⟨rfl, rfl⟩
abbrev rm_c_X5_picture_f : Room := { frames := 0, cells := 0, slots := 0, locals := 0 }
set_option maxRecDepth 100000 in
set_option maxHeartbeats 8000000 in
theorem c_X5_picture_f (G : VC) : Ctr yX5_picture wsX5_picture rm_c_X5_picture_f G [.int (nI (bN false))] (bl []) (fun v9_ u9_ => u9_ = (bl []) ∧ v9_ = some (.int (nI (55)))) := by
  refine Ctr.int (cc := cX5_picture) (maxL := 1) (ret := (some .int)) (lv0 := [some (.int (nI (bN false)))]) (by decide) rfl rfl rfl (Nat.le_of_ble_eq_true rfl) rfl (fun A X E hend => ?_)
  refine V.iload_n E dX5_picture_0 rfl rfl ?_
  refine V.if_eqB (tgt := 9) E dX5_picture_1 (by decide) (fun q_1 => ?_) (fun q_1 => ?_)
  · refine V.bipush (v := nI (55)) E dX5_picture_9 (by decide) ?_
    exact hend _ _ _ _ dX5_picture_11 (nrI _) ⟨rfl, rfl⟩
  · exact absurd q_1 (by decide)
abbrev rm_c_X5_isBetween : Room := { frames := 1, cells := 0, slots := 0, locals := 25 }
theorem hd_X5_isBetween : yX5_isBetween.cls ≠ "java/lang/invoke/MethodHandle" ∧ yX5_isBetween.cls ≠ "java/lang/invoke/VarHandle" ∧ (parseMethodDescriptor yX5_isBetween.desc).map (fun d => d.parameters.length) = some 3 := by decide +kernel
set_option maxRecDepth 100000 in
set_option maxHeartbeats 8000000 in
theorem c_X5_isBetween (G : VC) (p : Nat) (a : Nat) (b : Nat) (hp : p < 48) (ha : a < 48) (hb : b < 48) : Ctr yX5_isBetween wsX5_isBetween rm_c_X5_isBetween G [.int (nI (p)), .int (nI (a)), .int (nI (b))] (bl []) (fun v9_ u9_ => u9_ = (bl []) ∧ v9_ = some (.int (nI (bN (decide (min a b ≤ p ∧ p ≤ max a b)))))) := by
  refine Ctr.int (cc := cX5_isBetween) (maxL := 3) (ret := (some .boolean)) (lv0 := [some (.int (nI (p))), some (.int (nI (a))), some (.int (nI (b)))]) (by decide) rfl rfl rfl (Nat.le_of_ble_eq_true rfl) rfl (fun A X E hend => ?_)
  refine V.iload_n E dX5_isBetween_0 rfl rfl ?_
  refine V.iload_n E dX5_isBetween_1 rfl rfl ?_
  refine V.icmp_gtN (tgt := 17) E (by omega) (by omega) dX5_isBetween_2 (by decide) (fun q_2 => ?_) (fun q_2 => ?_)
  · refine V.iload_n E dX5_isBetween_17 rfl rfl ?_
    refine V.i2l E dX5_isBetween_18 rfl ?_
    refine V.iload_n E dX5_isBetween_19 rfl rfl ?_
    refine V.i2l E dX5_isBetween_20 rfl ?_
    refine V.iload_n E dX5_isBetween_21 rfl rfl ?_
    refine V.i2l E dX5_isBetween_22 rfl ?_
    refine V.callS E (c_X5_in G ((nI (p)).toInt64) ((nI (b)).toInt64) ((nI (a)).toInt64) ) (bl []) [] gX5_isBetween_X5_in rfl hd_X5_in ⟨⟨Nat.le_of_ble_eq_true rfl, Nat.le_of_ble_eq_true rfl⟩, Nat.le_of_ble_eq_true rfl, Nat.le_of_ble_eq_true rfl⟩ rfl (Nat.le_of_ble_eq_true rfl) rfl dX5_isBetween_23 (List.Perm.refl _) (kc' := 0) (ks' := 0) rfl rfl (rwI (ws' := (bl [])) (List.Perm.refl _) ?_)
    refine V.topN (b := bN (decide (min a b ≤ p ∧ p ≤ max a b))) (congrArg bN ((inL_NN (by omega) (by omega) (by omega)).trans (by rw [decide_eq_decide]; omega))) ?_
    exact hend _ _ _ _ dX5_isBetween_26 (nrB _) ⟨rfl, rfl⟩
  · refine V.iload_n E dX5_isBetween_5 rfl rfl ?_
    refine V.i2l E dX5_isBetween_6 rfl ?_
    refine V.iload_n E dX5_isBetween_7 rfl rfl ?_
    refine V.i2l E dX5_isBetween_8 rfl ?_
    refine V.iload_n E dX5_isBetween_9 rfl rfl ?_
    refine V.i2l E dX5_isBetween_10 rfl ?_
    refine V.callS E (c_X5_in G ((nI (p)).toInt64) ((nI (a)).toInt64) ((nI (b)).toInt64) ) (bl []) [] gX5_isBetween_X5_in rfl hd_X5_in ⟨⟨Nat.le_of_ble_eq_true rfl, Nat.le_of_ble_eq_true rfl⟩, Nat.le_of_ble_eq_true rfl, Nat.le_of_ble_eq_true rfl⟩ rfl (Nat.le_of_ble_eq_true rfl) rfl dX5_isBetween_11 (List.Perm.refl _) (kc' := 0) (ks' := 0) rfl rfl (rwI (ws' := (bl [])) (List.Perm.refl _) ?_)
    refine V.goto (tgt := 26) E dX5_isBetween_14 (by decide) ?_
    refine V.topN (b := bN (decide (min a b ≤ p ∧ p ≤ max a b))) (congrArg bN ((inL_NN (by omega) (by omega) (by omega)).trans (by rw [decide_eq_decide]; omega))) ?_
    exact hend _ _ _ _ dX5_isBetween_26 (nrB _) ⟨rfl, rfl⟩
abbrev rm_c_X5_isSlot : Room := { frames := 0, cells := 0, slots := 0, locals := 0 }
theorem hd_X5_isSlot : yX5_isSlot.cls ≠ "java/lang/invoke/MethodHandle" ∧ yX5_isSlot.cls ≠ "java/lang/invoke/VarHandle" ∧ (parseMethodDescriptor yX5_isSlot.desc).map (fun d => d.parameters.length) = some 1 := by decide +kernel
set_option maxRecDepth 100000 in
set_option maxHeartbeats 8000000 in
theorem c_X5_isSlot (G : VC) (x : Int32) : Ctr yX5_isSlot wsX5_isSlot rm_c_X5_isSlot G [.int (x)] (bl []) (fun v9_ u9_ => u9_ = (bl []) ∧ v9_ = some (.int (nI (bN (okI 2 x))))) := by
  refine Ctr.int (cc := cX5_isSlot) (maxL := 1) (ret := (some .boolean)) (lv0 := [some (.int (x))]) (by decide) rfl rfl rfl (Nat.le_of_ble_eq_true rfl) rfl (fun A X E hend => ?_)
  refine V.iload_n E dX5_isSlot_0 rfl rfl ?_
  refine V.if_eq (tgt := 9) E dX5_isSlot_1 (by decide) (fun q_1 => ?_) (fun q_1 => ?_)
  · refine V.iconst (v := nI (1)) E dX5_isSlot_9 (by decide) ?_
    refine V.goto (tgt := 14) E dX5_isSlot_10 (by decide) ?_
    refine V.topN (b := bN (okI 2 x)) (by first | (rw [q_1]; rfl) | (rw [q_6]; rfl) | exact (bN_f (by simp only [okI, decide_eq_false_iff_not]; rw [i_eq] at q_1 q_6; have h0 : (0 : Int32).toInt = 0 := rfl; have h1 : (nI 1).toInt = 1 := rfl; omega)).symm) ?_
    exact hend _ _ _ _ dX5_isSlot_14 (nrB _) ⟨rfl, rfl⟩
  · refine V.iload_n E dX5_isSlot_4 rfl rfl ?_
    refine V.iconst (v := nI (1)) E dX5_isSlot_5 (by decide) ?_
    refine V.icmp_ne (tgt := 13) E dX5_isSlot_6 (by decide) (fun q_6 => ?_) (fun q_6 => ?_)
    · refine V.iconst (v := nI (0)) E dX5_isSlot_13 (by decide) ?_
      refine V.topN (b := bN (okI 2 x)) (by first | (rw [q_1]; rfl) | (rw [q_6]; rfl) | exact (bN_f (by simp only [okI, decide_eq_false_iff_not]; rw [i_eq] at q_1 q_6; have h0 : (0 : Int32).toInt = 0 := rfl; have h1 : (nI 1).toInt = 1 := rfl; omega)).symm) ?_
      exact hend _ _ _ _ dX5_isSlot_14 (nrB _) ⟨rfl, rfl⟩
    · refine V.iconst (v := nI (1)) E dX5_isSlot_9 (by decide) ?_
      refine V.goto (tgt := 14) E dX5_isSlot_10 (by decide) ?_
      refine V.topN (b := bN (okI 2 x)) (by first | (rw [q_1]; rfl) | (rw [q_6]; rfl) | exact (bN_f (by simp only [okI, decide_eq_false_iff_not]; rw [i_eq] at q_1 q_6; have h0 : (0 : Int32).toInt = 0 := rfl; have h1 : (nI 1).toInt = 1 := rfl; omega)).symm) ?_
      exact hend _ _ _ _ dX5_isSlot_14 (nrB _) ⟨rfl, rfl⟩
abbrev rm_c_X5_set_bad : Room := { frames := 2, cells := 0, slots := 0, locals := 46 }
theorem hd_X5_set : yX5_set.cls ≠ "java/lang/invoke/MethodHandle" ∧ yX5_set.cls ≠ "java/lang/invoke/VarHandle" ∧ (parseMethodDescriptor yX5_set.desc).map (fun d => d.parameters.length) = some 2 := by decide +kernel
set_option maxRecDepth 100000 in
set_option maxHeartbeats 8000000 in
theorem c_X5_set_bad (G : VC) (a : Nat → Nat) (hi : Nat → Nat) (sl : Nat → Nat) (sv : Nat → Nat) (r : Nat → Nat) (o : Nat → Nat) (k : Nat → Nat) (t : Nat → Nat) (m : Nat → Nat) (e : Nat → Nat) (w : Nat → Nat) (tx : Nat → Nat) (cl : Nat → Int32) (hl : Nat) (tl : Nat) (sp : Nat) (rd : Nat) (x : SC) (k_ : Int32) (v_ : Int32) (hb : okSet k_ v_ = false) : Ctr yX5_set wsX5_set rm_c_X5_set_bad G [.ref (a 0), .int (k_), .int (v_)] (bl [mdW G a (fla x) hi sl sv r o k t m e w tx cl hl tl sp rd]) (fun v9_ u9_ => u9_ = (bl [mdW G a (fla x) hi sl sv r o k t m e w tx cl hl tl sp rd]) ∧ v9_ = some (.int ((-2 : Int32)))) := by
  refine Ctr.int (cc := cX5_set) (maxL := 4) (ret := (some .int)) (lv0 := [some (.ref (a 0)), some (.int (k_)), some (.int (v_)), none]) (by decide) rfl rfl rfl (Nat.le_of_ble_eq_true rfl) rfl (fun A X E hend => ?_)
  refine V.iload_n E dX5_set_0 rfl rfl ?_
  refine V.iload_n E dX5_set_1 rfl rfl ?_
  refine V.callS E (c_X5_isSetting G k_ v_ ) (bl [mdW G a (fla x) hi sl sv r o k t m e w tx cl hl tl sp rd]) [] gX5_set_X5_isSetting rfl hd_X5_isSetting ⟨⟨Nat.le_of_ble_eq_true rfl, Nat.le_of_ble_eq_true rfl⟩, Nat.le_of_ble_eq_true rfl, Nat.le_of_ble_eq_true rfl⟩ rfl (Nat.le_of_ble_eq_true rfl) rfl dX5_set_2 (List.Perm.refl _) (kc' := 0) (ks' := 0) rfl rfl (rwI (ws' := (bl [mdW G a (fla x) hi sl sv r o k t m e w tx cl hl tl sp rd])) (List.Perm.refl _) ?_)
  refine V.if_neB (tgt := 11) E dX5_set_5 (by decide) (fun q_5 => ?_) (fun q_5 => ?_)
  · exact absurd (hb.symm.trans q_5) (by decide)
  · refine V.bipush (v := (-2 : Int32)) E dX5_set_8 (by decide) ?_
    exact hend _ _ _ _ dX5_set_10 (nrI _) ⟨rfl, rfl⟩
abbrev rm_c_X5_set_un : Room := { frames := 2, cells := 0, slots := 0, locals := 46 }
set_option maxRecDepth 100000 in
set_option maxHeartbeats 8000000 in
theorem c_X5_set_un (G : VC) (a : Nat → Nat) (hi : Nat → Nat) (sl : Nat → Nat) (sv : Nat → Nat) (r : Nat → Nat) (o : Nat → Nat) (k : Nat → Nat) (t : Nat → Nat) (m : Nat → Nat) (e : Nat → Nat) (w : Nat → Nat) (tx : Nat → Nat) (cl : Nat → Int32) (hl : Nat) (tl : Nat) (sp : Nat) (rd : Nat) (x : SC) (k_ : Nat) (v_ : Nat) (hx : SInv x) (hk : k_ < 6) (hv_ : v_ ≤ hv k_) (ho : ordN x k_ v_ = false) : Ctr yX5_set wsX5_set rm_c_X5_set_un G [.ref (a 0), .int (nI (k_)), .int (nI (v_))] (bl [mdW G a (fla x) hi sl sv r o k t m e w tx cl hl tl sp rd]) (fun v9_ u9_ => u9_ = (bl [mdW G a (fla x) hi sl sv r o k t m e w tx cl hl tl sp rd]) ∧ v9_ = some (.int ((-5 : Int32)))) := by
  refine Ctr.int (cc := cX5_set) (maxL := 4) (ret := (some .int)) (lv0 := [some (.ref (a 0)), some (.int (nI (k_))), some (.int (nI (v_))), none]) (by decide) rfl rfl rfl (Nat.le_of_ble_eq_true rfl) rfl (fun A X E hend => ?_)
  refine V.iload_n E dX5_set_0 rfl rfl ?_
  refine V.iload_n E dX5_set_1 rfl rfl ?_
  refine V.callS E (c_X5_isSetting G (nI (k_)) (nI (v_)) ) (bl [mdW G a (fla x) hi sl sv r o k t m e w tx cl hl tl sp rd]) [] gX5_set_X5_isSetting rfl hd_X5_isSetting ⟨⟨Nat.le_of_ble_eq_true rfl, Nat.le_of_ble_eq_true rfl⟩, Nat.le_of_ble_eq_true rfl, Nat.le_of_ble_eq_true rfl⟩ rfl (Nat.le_of_ble_eq_true rfl) rfl dX5_set_2 (List.Perm.refl _) (kc' := 0) (ks' := 0) rfl rfl (rwI (ws' := (bl [mdW G a (fla x) hi sl sv r o k t m e w tx cl hl tl sp rd])) (List.Perm.refl _) ?_)
  refine V.if_neB (tgt := 11) E dX5_set_5 (by decide) (fun q_5 => ?_) (fun q_5 => ?_)
  · refine V.aload_n E dX5_set_11 rfl rfl ?_
    refine V.iload_n E dX5_set_12 rfl rfl ?_
    refine V.iload_n E dX5_set_13 rfl rfl ?_
    refine V.callV (C := RX5) E (c_X5_isOrdered G a hi sl sv r o k t m e w tx cl hl tl sp rd x k_ v_ (hx) (hk) (Nat.le_trans hv_ ((by decide : ∀ j, j < 6 → hv j ≤ 45) _ hk))) (bl []) [] 0 5 rfl rfl rfl gX5_set_X5_isOrdered rfl ⟨rfl, hd_X5_isOrdered⟩ ⟨⟨Nat.le_of_ble_eq_true rfl, Nat.le_of_ble_eq_true rfl⟩, Nat.le_of_ble_eq_true rfl, Nat.le_of_ble_eq_true rfl⟩ rfl (Nat.le_of_ble_eq_true rfl) rfl dX5_set_14 (pBs (n := 1) [mdW G a (fla x) hi sl sv r o k t m e w tx cl hl tl sp rd] [0] [] rfl (by decide)) (kc' := 0) (ks' := 0) rfl rfl (rwI (ws' := (bl [mdW G a (fla x) hi sl sv r o k t m e w tx cl hl tl sp rd])) (pBs (n := 1) [mdW G a (fla x) hi sl sv r o k t m e w tx cl hl tl sp rd] [0] [] rfl (by decide)).symm ?_)
    refine V.if_neB (tgt := 23) E dX5_set_17 (by decide) (fun q_17 => ?_) (fun q_17 => ?_)
    · exact absurd (ho.symm.trans q_17) (by decide)
    · refine V.bipush (v := (-5 : Int32)) E dX5_set_20 (by decide) ?_
      exact hend _ _ _ _ dX5_set_22 (nrI _) ⟨rfl, rfl⟩
  · exact absurd ((okSet_n hk hv_).symm.trans q_5) (by decide)
abbrev rm_c_X5_set_ok : Room := { frames := 2, cells := 0, slots := 0, locals := 46 }
set_option maxRecDepth 100000 in
set_option maxHeartbeats 8000000 in
theorem c_X5_set_ok (G : VC) (a : Nat → Nat) (hi : Nat → Nat) (sl : Nat → Nat) (sv : Nat → Nat) (r : Nat → Nat) (o : Nat → Nat) (k : Nat → Nat) (t : Nat → Nat) (m : Nat → Nat) (e : Nat → Nat) (w : Nat → Nat) (tx : Nat → Nat) (cl : Nat → Int32) (hl : Nat) (tl : Nat) (sp : Nat) (rd : Nat) (x : SC) (hh : Nat → SC) (k_ : Nat) (v_ : Nat) (hx : SInv x) (hl6 : hl ≤ 6) (hH : HI hl hh hi) (hk : k_ < 6) (hv_ : v_ ≤ hv k_) (ho : ordN x k_ v_ = true) : Ctr yX5_set wsX5_set rm_c_X5_set_ok G [.ref (a 0), .int (nI (k_)), .int (nI (v_))] (bl [mdW G a (fla x) hi sl sv r o k t m e w tx cl hl tl sp rd]) (fun v9_ u9_ => ∃ gh : Nat → Nat, u9_ = (bl [mdW G a (fla (upN (scS x) k_ v_, x.2)) gh sl sv r o k t m e w tx cl (hlN hl) tl sp rd]) ∧ v9_ = some (.int (nI (scS x k_))) ∧ (HI (hlN hl) (hhN x hl hh) gh)) := by
  refine Ctr.int (cc := cX5_set) (maxL := 4) (ret := (some .int)) (lv0 := [some (.ref (a 0)), some (.int (nI (k_))), some (.int (nI (v_))), none]) (by decide) rfl rfl rfl (Nat.le_of_ble_eq_true rfl) rfl (fun A X E hend => ?_)
  refine V.iload_n E dX5_set_0 rfl rfl ?_
  refine V.iload_n E dX5_set_1 rfl rfl ?_
  refine V.callS E (c_X5_isSetting G (nI (k_)) (nI (v_)) ) (bl [mdW G a (fla x) hi sl sv r o k t m e w tx cl hl tl sp rd]) [] gX5_set_X5_isSetting rfl hd_X5_isSetting ⟨⟨Nat.le_of_ble_eq_true rfl, Nat.le_of_ble_eq_true rfl⟩, Nat.le_of_ble_eq_true rfl, Nat.le_of_ble_eq_true rfl⟩ rfl (Nat.le_of_ble_eq_true rfl) rfl dX5_set_2 (List.Perm.refl _) (kc' := 0) (ks' := 0) rfl rfl (rwI (ws' := (bl [mdW G a (fla x) hi sl sv r o k t m e w tx cl hl tl sp rd])) (List.Perm.refl _) ?_)
  refine V.if_neB (tgt := 11) E dX5_set_5 (by decide) (fun q_5 => ?_) (fun q_5 => ?_)
  · refine V.aload_n E dX5_set_11 rfl rfl ?_
    refine V.iload_n E dX5_set_12 rfl rfl ?_
    refine V.iload_n E dX5_set_13 rfl rfl ?_
    refine V.callV (C := RX5) E (c_X5_isOrdered G a hi sl sv r o k t m e w tx cl hl tl sp rd x k_ v_ (hx) (hk) (Nat.le_trans hv_ ((by decide : ∀ j, j < 6 → hv j ≤ 45) _ hk))) (bl []) [] 0 5 rfl rfl rfl gX5_set_X5_isOrdered rfl ⟨rfl, hd_X5_isOrdered⟩ ⟨⟨Nat.le_of_ble_eq_true rfl, Nat.le_of_ble_eq_true rfl⟩, Nat.le_of_ble_eq_true rfl, Nat.le_of_ble_eq_true rfl⟩ rfl (Nat.le_of_ble_eq_true rfl) rfl dX5_set_14 (pBs (n := 1) [mdW G a (fla x) hi sl sv r o k t m e w tx cl hl tl sp rd] [0] [] rfl (by decide)) (kc' := 0) (ks' := 0) rfl rfl (rwI (ws' := (bl [mdW G a (fla x) hi sl sv r o k t m e w tx cl hl tl sp rd])) (pBs (n := 1) [mdW G a (fla x) hi sl sv r o k t m e w tx cl hl tl sp rd] [0] [] rfl (by decide)).symm ?_)
    refine V.if_neB (tgt := 23) E dX5_set_17 (by decide) (fun q_17 => ?_) (fun q_17 => ?_)
    · refine V.aload_n E dX5_set_23 rfl rfl ?_
      refine V.callV (C := RX5) E (c_X5_changes G a hi sl sv r o k t m e w tx cl hl tl sp rd x hh (hl6) (hH)) (bl []) [] 0 5 rfl rfl rfl gX5_set_X5_changes rfl ⟨rfl, hd_X5_changes⟩ ⟨⟨Nat.le_of_ble_eq_true rfl, Nat.le_of_ble_eq_true rfl⟩, Nat.le_of_ble_eq_true rfl, Nat.le_of_ble_eq_true rfl⟩ rfl (Nat.le_of_ble_eq_true rfl) rfl dX5_set_24 (pBs (n := 1) [mdW G a (fla x) hi sl sv r o k t m e w tx cl hl tl sp rd] [0] [] rfl (by decide)) (kc' := 0) (ks' := 0) rfl rfl (rxV (ws' := fun (g_24 : Nat → Nat) => (bl [mdW G a (fla x) g_24 sl sv r o k t m e w tx cl (hlN hl) tl sp rd])) (fun g_24 => (pBs (n := 1) [mdW G a (fla x) g_24 sl sv r o k t m e w tx cl (hlN hl) tl sp rd] [0] [] rfl (by decide)).symm) (fun g_24 hf_24 => ?_))
      refine V.aload_n E dX5_set_27 rfl rfl ?_
      refine V.getf (C := RX5) (T := TX5) (N := 17) (ref := "GlassSpillModel") E 0 5 0 (by decide +kernel) rfl rfl (by decide) (by decide +kernel) rfl rfl dX5_set_28 ?_
      refine V.iload_n E dX5_set_31 rfl rfl ?_
      refine V.ialdN (v := nI (scS x k_)) E 1 rfl (by omega) (by decide) (congrArg nI (fla_S _ hk)) dX5_set_32 ?_
      refine V.istore_n (lv' := [some (.ref (a 0)), some (.int (nI (k_))), some (.int (nI (v_))), some (.int (nI (scS x k_)))]) E dX5_set_33 rfl (Nat.le_of_ble_eq_true rfl) rfl rfl ?_
      refine V.aload_n E dX5_set_34 rfl rfl ?_
      refine V.getf (C := RX5) (T := TX5) (N := 17) (ref := "GlassSpillModel") E 0 5 0 (by decide +kernel) rfl rfl (by decide) (by decide +kernel) rfl rfl dX5_set_35 ?_
      refine V.iload_n E dX5_set_38 rfl rfl ?_
      refine V.iload_n E dX5_set_39 rfl rfl ?_
      refine V.iastN (f' := nA (fla (upN (scS x) k_ v_, x.2))) (ws' := (bl [mdW G a (fla (upN (scS x) k_ v_, x.2)) g_24 sl sv r o k t m e w tx cl (hlN hl) tl sp rd])) E 1 rfl (by omega) (by decide) dX5_set_40 (fun j _ => fla_uS x hk j) rfl ?_
      refine V.iload_n E dX5_set_41 rfl rfl ?_
      exact hend _ _ _ _ dX5_set_42 (nrI _) ⟨g_24, rfl, rfl, hf_24⟩
    · exact absurd (ho.symm.trans q_17) (by decide)
  · exact absurd ((okSet_n hk hv_).symm.trans q_5) (by decide)
abbrev rm_c_X5_screen_bad : Room := { frames := 2, cells := 0, slots := 0, locals := 45 }
theorem hd_X5_screen : yX5_screen.cls ≠ "java/lang/invoke/MethodHandle" ∧ yX5_screen.cls ≠ "java/lang/invoke/VarHandle" ∧ (parseMethodDescriptor yX5_screen.desc).map (fun d => d.parameters.length) = some 1 := by decide +kernel
set_option maxRecDepth 100000 in
set_option maxHeartbeats 8000000 in
theorem c_X5_screen_bad (G : VC) (a : Nat → Nat) (hi : Nat → Nat) (sl : Nat → Nat) (sv : Nat → Nat) (r : Nat → Nat) (o : Nat → Nat) (k : Nat → Nat) (t : Nat → Nat) (m : Nat → Nat) (e : Nat → Nat) (w : Nat → Nat) (tx : Nat → Nat) (cl : Nat → Int32) (hl : Nat) (tl : Nat) (sp : Nat) (rd : Nat) (x : SC) (c_ : Int32) (hb : okI 4096 c_ = false) : Ctr yX5_screen wsX5_screen rm_c_X5_screen_bad G [.ref (a 0), .int (c_)] (bl [mdW G a (fla x) hi sl sv r o k t m e w tx cl hl tl sp rd]) (fun v9_ u9_ => u9_ = (bl [mdW G a (fla x) hi sl sv r o k t m e w tx cl hl tl sp rd]) ∧ v9_ = some (.int ((-2 : Int32)))) := by
  refine Ctr.int (cc := cX5_screen) (maxL := 3) (ret := (some .int)) (lv0 := [some (.ref (a 0)), some (.int (c_)), none]) (by decide) rfl rfl rfl (Nat.le_of_ble_eq_true rfl) rfl (fun A X E hend => ?_)
  refine V.iload_n E dX5_screen_0 rfl rfl ?_
  refine V.callS E (c_X5_isColour G c_ ) (bl [mdW G a (fla x) hi sl sv r o k t m e w tx cl hl tl sp rd]) [] gX5_screen_X5_isColour rfl hd_X5_isColour ⟨⟨Nat.le_of_ble_eq_true rfl, Nat.le_of_ble_eq_true rfl⟩, Nat.le_of_ble_eq_true rfl, Nat.le_of_ble_eq_true rfl⟩ rfl (Nat.le_of_ble_eq_true rfl) rfl dX5_screen_1 (List.Perm.refl _) (kc' := 0) (ks' := 0) rfl rfl (rwI (ws' := (bl [mdW G a (fla x) hi sl sv r o k t m e w tx cl hl tl sp rd])) (List.Perm.refl _) ?_)
  refine V.if_neB (tgt := 10) E dX5_screen_4 (by decide) (fun q_4 => ?_) (fun q_4 => ?_)
  · exact absurd (hb.symm.trans q_4) (by decide)
  · refine V.bipush (v := (-2 : Int32)) E dX5_screen_7 (by decide) ?_
    exact hend _ _ _ _ dX5_screen_9 (nrI _) ⟨rfl, rfl⟩
abbrev rm_c_X5_screen_ok : Room := { frames := 2, cells := 0, slots := 0, locals := 45 }
set_option maxRecDepth 100000 in
set_option maxHeartbeats 8000000 in
theorem c_X5_screen_ok (G : VC) (a : Nat → Nat) (hi : Nat → Nat) (sl : Nat → Nat) (sv : Nat → Nat) (r : Nat → Nat) (o : Nat → Nat) (k : Nat → Nat) (t : Nat → Nat) (m : Nat → Nat) (e : Nat → Nat) (w : Nat → Nat) (tx : Nat → Nat) (cl : Nat → Int32) (hl : Nat) (tl : Nat) (sp : Nat) (rd : Nat) (x : SC) (hh : Nat → SC) (c_ : Nat) (hl6 : hl ≤ 6) (hH : HI hl hh hi) (hc : c_ < 4096) : Ctr yX5_screen wsX5_screen rm_c_X5_screen_ok G [.ref (a 0), .int (nI (c_))] (bl [mdW G a (fla x) hi sl sv r o k t m e w tx cl hl tl sp rd]) (fun v9_ u9_ => ∃ gh : Nat → Nat, u9_ = (bl [mdW G a (fla (scS x, scF x, scB x, scG x, c_)) gh sl sv r o k t m e w tx cl (hlN hl) tl sp rd]) ∧ v9_ = some (.int (nI (scC x))) ∧ (HI (hlN hl) (hhN x hl hh) gh)) := by
  refine Ctr.int (cc := cX5_screen) (maxL := 3) (ret := (some .int)) (lv0 := [some (.ref (a 0)), some (.int (nI (c_))), none]) (by decide) rfl rfl rfl (Nat.le_of_ble_eq_true rfl) rfl (fun A X E hend => ?_)
  refine V.iload_n E dX5_screen_0 rfl rfl ?_
  refine V.callS E (c_X5_isColour G (nI (c_)) ) (bl [mdW G a (fla x) hi sl sv r o k t m e w tx cl hl tl sp rd]) [] gX5_screen_X5_isColour rfl hd_X5_isColour ⟨⟨Nat.le_of_ble_eq_true rfl, Nat.le_of_ble_eq_true rfl⟩, Nat.le_of_ble_eq_true rfl, Nat.le_of_ble_eq_true rfl⟩ rfl (Nat.le_of_ble_eq_true rfl) rfl dX5_screen_1 (List.Perm.refl _) (kc' := 0) (ks' := 0) rfl rfl (rwI (ws' := (bl [mdW G a (fla x) hi sl sv r o k t m e w tx cl hl tl sp rd])) (List.Perm.refl _) ?_)
  refine V.if_neB (tgt := 10) E dX5_screen_4 (by decide) (fun q_4 => ?_) (fun q_4 => ?_)
  · refine V.aload_n E dX5_screen_10 rfl rfl ?_
    refine V.callV (C := RX5) E (c_X5_changes G a hi sl sv r o k t m e w tx cl hl tl sp rd x hh (hl6) (hH)) (bl []) [] 0 5 rfl rfl rfl gX5_screen_X5_changes rfl ⟨rfl, hd_X5_changes⟩ ⟨⟨Nat.le_of_ble_eq_true rfl, Nat.le_of_ble_eq_true rfl⟩, Nat.le_of_ble_eq_true rfl, Nat.le_of_ble_eq_true rfl⟩ rfl (Nat.le_of_ble_eq_true rfl) rfl dX5_screen_11 (pBs (n := 1) [mdW G a (fla x) hi sl sv r o k t m e w tx cl hl tl sp rd] [0] [] rfl (by decide)) (kc' := 0) (ks' := 0) rfl rfl (rxV (ws' := fun (g_11 : Nat → Nat) => (bl [mdW G a (fla x) g_11 sl sv r o k t m e w tx cl (hlN hl) tl sp rd])) (fun g_11 => (pBs (n := 1) [mdW G a (fla x) g_11 sl sv r o k t m e w tx cl (hlN hl) tl sp rd] [0] [] rfl (by decide)).symm) (fun g_11 hf_11 => ?_))
    refine V.aload_n E dX5_screen_14 rfl rfl ?_
    refine V.getf (C := RX5) (T := TX5) (N := 17) (ref := "GlassSpillModel") E 0 5 0 (by decide +kernel) rfl rfl (by decide) (by decide +kernel) rfl rfl dX5_screen_15 ?_
    refine V.bipush (v := nI (6)) E dX5_screen_18 (by decide) ?_
    refine V.ialdN (v := nI (scC x)) E 1 rfl (by omega) (by decide) (congrArg nI (fla_C _)) dX5_screen_20 ?_
    refine V.istore_n (lv' := [some (.ref (a 0)), some (.int (nI (c_))), some (.int (nI (scC x)))]) E dX5_screen_21 rfl (Nat.le_of_ble_eq_true rfl) rfl rfl ?_
    refine V.aload_n E dX5_screen_22 rfl rfl ?_
    refine V.getf (C := RX5) (T := TX5) (N := 17) (ref := "GlassSpillModel") E 0 5 0 (by decide +kernel) rfl rfl (by decide) (by decide +kernel) rfl rfl dX5_screen_23 ?_
    refine V.bipush (v := nI (6)) E dX5_screen_26 (by decide) ?_
    refine V.iload_n E dX5_screen_28 rfl rfl ?_
    refine V.iastN (f' := nA (fla (scS x, scF x, scB x, scG x, c_))) (ws' := (bl [mdW G a (fla (scS x, scF x, scB x, scG x, c_)) g_11 sl sv r o k t m e w tx cl (hlN hl) tl sp rd])) E 1 rfl (by omega) (by decide) dX5_screen_29 (fun j _ => fla_uC x j) rfl ?_
    refine V.iload_n E dX5_screen_30 rfl rfl ?_
    exact hend _ _ _ _ dX5_screen_31 (nrI _) ⟨g_11, rfl, rfl, hf_11⟩
  · exact absurd ((okI_n hc (by omega)).symm.trans q_4) (by decide)
abbrev rm_c_X5_paint_bad : Room := { frames := 2, cells := 0, slots := 0, locals := 45 }
theorem hd_X5_paint : yX5_paint.cls ≠ "java/lang/invoke/MethodHandle" ∧ yX5_paint.cls ≠ "java/lang/invoke/VarHandle" ∧ (parseMethodDescriptor yX5_paint.desc).map (fun d => d.parameters.length) = some 3 := by decide +kernel
set_option maxRecDepth 100000 in
set_option maxHeartbeats 8000000 in
theorem c_X5_paint_bad (G : VC) (a : Nat → Nat) (hi : Nat → Nat) (sl : Nat → Nat) (sv : Nat → Nat) (r : Nat → Nat) (o : Nat → Nat) (k : Nat → Nat) (t : Nat → Nat) (m : Nat → Nat) (e : Nat → Nat) (w : Nat → Nat) (tx : Nat → Nat) (cl : Nat → Int32) (hl : Nat) (tl : Nat) (sp : Nat) (rd : Nat) (x : SC) (b_ : Nat) (p_ : Int32) (c_ : Int32) (hb : okI 48 p_ = false) : Ctr yX5_paint wsX5_paint rm_c_X5_paint_bad G [.ref (a 0), .int (nI (b_)), .int (p_), .int (c_)] (bl [mdW G a (fla x) hi sl sv r o k t m e w tx cl hl tl sp rd]) (fun v9_ u9_ => u9_ = (bl [mdW G a (fla x) hi sl sv r o k t m e w tx cl hl tl sp rd]) ∧ v9_ = some (.int ((-1 : Int32)))) := by
  refine Ctr.int (cc := cX5_paint) (maxL := 5) (ret := (some .int)) (lv0 := [some (.ref (a 0)), some (.int (nI (b_))), some (.int (p_)), some (.int (c_)), none]) (by decide) rfl rfl rfl (Nat.le_of_ble_eq_true rfl) rfl (fun A X E hend => ?_)
  refine V.iload_n E dX5_paint_0 rfl rfl ?_
  refine V.callS E (c_X5_isPixel G p_ ) (bl [mdW G a (fla x) hi sl sv r o k t m e w tx cl hl tl sp rd]) [] gX5_paint_X5_isPixel rfl hd_X5_isPixel ⟨⟨Nat.le_of_ble_eq_true rfl, Nat.le_of_ble_eq_true rfl⟩, Nat.le_of_ble_eq_true rfl, Nat.le_of_ble_eq_true rfl⟩ rfl (Nat.le_of_ble_eq_true rfl) rfl dX5_paint_1 (List.Perm.refl _) (kc' := 0) (ks' := 0) rfl rfl (rwI (ws' := (bl [mdW G a (fla x) hi sl sv r o k t m e w tx cl hl tl sp rd])) (List.Perm.refl _) ?_)
  refine V.if_neB (tgt := 9) E dX5_paint_4 (by decide) (fun q_4 => ?_) (fun q_4 => ?_)
  · exact absurd (hb.symm.trans q_4) (by decide)
  · refine V.iconst (v := (-1 : Int32)) E dX5_paint_7 (by decide) ?_
    exact hend _ _ _ _ dX5_paint_8 (nrI _) ⟨rfl, rfl⟩
abbrev rm_c_X5_paint_bc : Room := { frames := 2, cells := 0, slots := 0, locals := 45 }
set_option maxRecDepth 100000 in
set_option maxHeartbeats 8000000 in
theorem c_X5_paint_bc (G : VC) (a : Nat → Nat) (hi : Nat → Nat) (sl : Nat → Nat) (sv : Nat → Nat) (r : Nat → Nat) (o : Nat → Nat) (k : Nat → Nat) (t : Nat → Nat) (m : Nat → Nat) (e : Nat → Nat) (w : Nat → Nat) (tx : Nat → Nat) (cl : Nat → Int32) (hl : Nat) (tl : Nat) (sp : Nat) (rd : Nat) (x : SC) (b_ : Nat) (p_ : Nat) (c_ : Int32) (hp : p_ < 48) (hb : okI 4096 c_ = false) : Ctr yX5_paint wsX5_paint rm_c_X5_paint_bc G [.ref (a 0), .int (nI (b_)), .int (nI (p_)), .int (c_)] (bl [mdW G a (fla x) hi sl sv r o k t m e w tx cl hl tl sp rd]) (fun v9_ u9_ => u9_ = (bl [mdW G a (fla x) hi sl sv r o k t m e w tx cl hl tl sp rd]) ∧ v9_ = some (.int ((-2 : Int32)))) := by
  refine Ctr.int (cc := cX5_paint) (maxL := 5) (ret := (some .int)) (lv0 := [some (.ref (a 0)), some (.int (nI (b_))), some (.int (nI (p_))), some (.int (c_)), none]) (by decide) rfl rfl rfl (Nat.le_of_ble_eq_true rfl) rfl (fun A X E hend => ?_)
  refine V.iload_n E dX5_paint_0 rfl rfl ?_
  refine V.callS E (c_X5_isPixel G (nI (p_)) ) (bl [mdW G a (fla x) hi sl sv r o k t m e w tx cl hl tl sp rd]) [] gX5_paint_X5_isPixel rfl hd_X5_isPixel ⟨⟨Nat.le_of_ble_eq_true rfl, Nat.le_of_ble_eq_true rfl⟩, Nat.le_of_ble_eq_true rfl, Nat.le_of_ble_eq_true rfl⟩ rfl (Nat.le_of_ble_eq_true rfl) rfl dX5_paint_1 (List.Perm.refl _) (kc' := 0) (ks' := 0) rfl rfl (rwI (ws' := (bl [mdW G a (fla x) hi sl sv r o k t m e w tx cl hl tl sp rd])) (List.Perm.refl _) ?_)
  refine V.if_neB (tgt := 9) E dX5_paint_4 (by decide) (fun q_4 => ?_) (fun q_4 => ?_)
  · refine V.iload_n E dX5_paint_9 rfl rfl ?_
    refine V.callS E (c_X5_isColour G c_ ) (bl [mdW G a (fla x) hi sl sv r o k t m e w tx cl hl tl sp rd]) [] gX5_paint_X5_isColour rfl hd_X5_isColour ⟨⟨Nat.le_of_ble_eq_true rfl, Nat.le_of_ble_eq_true rfl⟩, Nat.le_of_ble_eq_true rfl, Nat.le_of_ble_eq_true rfl⟩ rfl (Nat.le_of_ble_eq_true rfl) rfl dX5_paint_10 (List.Perm.refl _) (kc' := 0) (ks' := 0) rfl rfl (rwI (ws' := (bl [mdW G a (fla x) hi sl sv r o k t m e w tx cl hl tl sp rd])) (List.Perm.refl _) ?_)
    refine V.if_neB (tgt := 19) E dX5_paint_13 (by decide) (fun q_13 => ?_) (fun q_13 => ?_)
    · exact absurd (hb.symm.trans q_13) (by decide)
    · refine V.bipush (v := (-2 : Int32)) E dX5_paint_16 (by decide) ?_
      exact hend _ _ _ _ dX5_paint_18 (nrI _) ⟨rfl, rfl⟩
  · exact absurd ((okI_n hp (by omega)).symm.trans q_4) (by decide)
abbrev rm_c_X5_paint_t : Room := { frames := 2, cells := 0, slots := 0, locals := 45 }
set_option maxRecDepth 100000 in
set_option maxHeartbeats 8000000 in
theorem c_X5_paint_t (G : VC) (a : Nat → Nat) (hi : Nat → Nat) (sl : Nat → Nat) (sv : Nat → Nat) (r : Nat → Nat) (o : Nat → Nat) (k : Nat → Nat) (t : Nat → Nat) (m : Nat → Nat) (e : Nat → Nat) (w : Nat → Nat) (tx : Nat → Nat) (cl : Nat → Int32) (hl : Nat) (tl : Nat) (sp : Nat) (rd : Nat) (x : SC) (hh : Nat → SC) (p_ : Nat) (c_ : Nat) (hl6 : hl ≤ 6) (hH : HI hl hh hi) (hp : p_ < 48) (hc : c_ < 4096) : Ctr yX5_paint wsX5_paint rm_c_X5_paint_t G [.ref (a 0), .int (nI (bN true)), .int (nI (p_)), .int (nI (c_))] (bl [mdW G a (fla x) hi sl sv r o k t m e w tx cl hl tl sp rd]) (fun v9_ u9_ => ∃ gh : Nat → Nat, u9_ = (bl [mdW G a (fla (scS x, upN (scF x) p_ c_, x.2.2)) gh sl sv r o k t m e w tx cl (hlN hl) tl sp rd]) ∧ v9_ = some (.int (nI (scF x p_))) ∧ (HI (hlN hl) (hhN x hl hh) gh)) := by
  refine Ctr.int (cc := cX5_paint) (maxL := 5) (ret := (some .int)) (lv0 := [some (.ref (a 0)), some (.int (nI (bN true))), some (.int (nI (p_))), some (.int (nI (c_))), none]) (by decide) rfl rfl rfl (Nat.le_of_ble_eq_true rfl) rfl (fun A X E hend => ?_)
  refine V.iload_n E dX5_paint_0 rfl rfl ?_
  refine V.callS E (c_X5_isPixel G (nI (p_)) ) (bl [mdW G a (fla x) hi sl sv r o k t m e w tx cl hl tl sp rd]) [] gX5_paint_X5_isPixel rfl hd_X5_isPixel ⟨⟨Nat.le_of_ble_eq_true rfl, Nat.le_of_ble_eq_true rfl⟩, Nat.le_of_ble_eq_true rfl, Nat.le_of_ble_eq_true rfl⟩ rfl (Nat.le_of_ble_eq_true rfl) rfl dX5_paint_1 (List.Perm.refl _) (kc' := 0) (ks' := 0) rfl rfl (rwI (ws' := (bl [mdW G a (fla x) hi sl sv r o k t m e w tx cl hl tl sp rd])) (List.Perm.refl _) ?_)
  refine V.if_neB (tgt := 9) E dX5_paint_4 (by decide) (fun q_4 => ?_) (fun q_4 => ?_)
  · refine V.iload_n E dX5_paint_9 rfl rfl ?_
    refine V.callS E (c_X5_isColour G (nI (c_)) ) (bl [mdW G a (fla x) hi sl sv r o k t m e w tx cl hl tl sp rd]) [] gX5_paint_X5_isColour rfl hd_X5_isColour ⟨⟨Nat.le_of_ble_eq_true rfl, Nat.le_of_ble_eq_true rfl⟩, Nat.le_of_ble_eq_true rfl, Nat.le_of_ble_eq_true rfl⟩ rfl (Nat.le_of_ble_eq_true rfl) rfl dX5_paint_10 (List.Perm.refl _) (kc' := 0) (ks' := 0) rfl rfl (rwI (ws' := (bl [mdW G a (fla x) hi sl sv r o k t m e w tx cl hl tl sp rd])) (List.Perm.refl _) ?_)
    refine V.if_neB (tgt := 19) E dX5_paint_13 (by decide) (fun q_13 => ?_) (fun q_13 => ?_)
    · refine V.aload_n E dX5_paint_19 rfl rfl ?_
      refine V.callV (C := RX5) E (c_X5_changes G a hi sl sv r o k t m e w tx cl hl tl sp rd x hh (hl6) (hH)) (bl []) [] 0 5 rfl rfl rfl gX5_paint_X5_changes rfl ⟨rfl, hd_X5_changes⟩ ⟨⟨Nat.le_of_ble_eq_true rfl, Nat.le_of_ble_eq_true rfl⟩, Nat.le_of_ble_eq_true rfl, Nat.le_of_ble_eq_true rfl⟩ rfl (Nat.le_of_ble_eq_true rfl) rfl dX5_paint_20 (pBs (n := 1) [mdW G a (fla x) hi sl sv r o k t m e w tx cl hl tl sp rd] [0] [] rfl (by decide)) (kc' := 0) (ks' := 0) rfl rfl (rxV (ws' := fun (g_20 : Nat → Nat) => (bl [mdW G a (fla x) g_20 sl sv r o k t m e w tx cl (hlN hl) tl sp rd])) (fun g_20 => (pBs (n := 1) [mdW G a (fla x) g_20 sl sv r o k t m e w tx cl (hlN hl) tl sp rd] [0] [] rfl (by decide)).symm) (fun g_20 hf_20 => ?_))
      refine V.aload_n E dX5_paint_23 rfl rfl ?_
      refine V.getf (C := RX5) (T := TX5) (N := 17) (ref := "GlassSpillModel") E 0 5 0 (by decide +kernel) rfl rfl (by decide) (by decide +kernel) rfl rfl dX5_paint_24 ?_
      refine V.iload_n E dX5_paint_27 rfl rfl ?_
      refine V.callS E (c_X5_picture_t G  ) (bl [mdW G a (fla x) g_20 sl sv r o k t m e w tx cl (hlN hl) tl sp rd]) [.ref (a 1)] gX5_paint_X5_picture rfl hd_X5_picture ⟨⟨Nat.le_of_ble_eq_true rfl, Nat.le_of_ble_eq_true rfl⟩, Nat.le_of_ble_eq_true rfl, Nat.le_of_ble_eq_true rfl⟩ rfl (Nat.le_of_ble_eq_true rfl) rfl dX5_paint_28 (List.Perm.refl _) (kc' := 0) (ks' := 0) rfl rfl (rwI (ws' := (bl [mdW G a (fla x) g_20 sl sv r o k t m e w tx cl (hlN hl) tl sp rd])) (List.Perm.refl _) ?_)
      refine V.iload_n E dX5_paint_31 rfl rfl ?_
      refine V.iaddN E  dX5_paint_32 ?_
      refine V.ialdN (v := nI (scF x p_)) E 1 rfl (by omega) (by decide) (congrArg nI (fla_F _ (by omega))) dX5_paint_33 ?_
      refine V.istore (lv' := [some (.ref (a 0)), some (.int (nI (bN true))), some (.int (nI (p_))), some (.int (nI (c_))), some (.int (nI (scF x p_)))]) E dX5_paint_34 (Nat.le_of_ble_eq_true rfl) rfl rfl ?_
      refine V.aload_n E dX5_paint_36 rfl rfl ?_
      refine V.getf (C := RX5) (T := TX5) (N := 17) (ref := "GlassSpillModel") E 0 5 0 (by decide +kernel) rfl rfl (by decide) (by decide +kernel) rfl rfl dX5_paint_37 ?_
      refine V.iload_n E dX5_paint_40 rfl rfl ?_
      refine V.callS E (c_X5_picture_t G  ) (bl [mdW G a (fla x) g_20 sl sv r o k t m e w tx cl (hlN hl) tl sp rd]) [.ref (a 1)] gX5_paint_X5_picture rfl hd_X5_picture ⟨⟨Nat.le_of_ble_eq_true rfl, Nat.le_of_ble_eq_true rfl⟩, Nat.le_of_ble_eq_true rfl, Nat.le_of_ble_eq_true rfl⟩ rfl (Nat.le_of_ble_eq_true rfl) rfl dX5_paint_41 (List.Perm.refl _) (kc' := 0) (ks' := 0) rfl rfl (rwI (ws' := (bl [mdW G a (fla x) g_20 sl sv r o k t m e w tx cl (hlN hl) tl sp rd])) (List.Perm.refl _) ?_)
      refine V.iload_n E dX5_paint_44 rfl rfl ?_
      refine V.iaddN E  dX5_paint_45 ?_
      refine V.iload_n E dX5_paint_46 rfl rfl ?_
      refine V.iastN (f' := nA (fla (scS x, upN (scF x) p_ c_, x.2.2))) (ws' := (bl [mdW G a (fla (scS x, upN (scF x) p_ c_, x.2.2)) g_20 sl sv r o k t m e w tx cl (hlN hl) tl sp rd])) E 1 rfl (by omega) (by decide) dX5_paint_47 (fun j _ => fla_uF x hp j) rfl ?_
      refine V.iload E dX5_paint_48 rfl ?_
      exact hend _ _ _ _ dX5_paint_50 (nrI _) ⟨g_20, rfl, rfl, hf_20⟩
    · exact absurd ((okI_n hc (by omega)).symm.trans q_13) (by decide)
  · exact absurd ((okI_n hp (by omega)).symm.trans q_4) (by decide)
abbrev rm_c_X5_paint_f : Room := { frames := 2, cells := 0, slots := 0, locals := 45 }
set_option maxRecDepth 100000 in
set_option maxHeartbeats 8000000 in
theorem c_X5_paint_f (G : VC) (a : Nat → Nat) (hi : Nat → Nat) (sl : Nat → Nat) (sv : Nat → Nat) (r : Nat → Nat) (o : Nat → Nat) (k : Nat → Nat) (t : Nat → Nat) (m : Nat → Nat) (e : Nat → Nat) (w : Nat → Nat) (tx : Nat → Nat) (cl : Nat → Int32) (hl : Nat) (tl : Nat) (sp : Nat) (rd : Nat) (x : SC) (hh : Nat → SC) (p_ : Nat) (c_ : Nat) (hl6 : hl ≤ 6) (hH : HI hl hh hi) (hp : p_ < 48) (hc : c_ < 4096) : Ctr yX5_paint wsX5_paint rm_c_X5_paint_f G [.ref (a 0), .int (nI (bN false)), .int (nI (p_)), .int (nI (c_))] (bl [mdW G a (fla x) hi sl sv r o k t m e w tx cl hl tl sp rd]) (fun v9_ u9_ => ∃ gh : Nat → Nat, u9_ = (bl [mdW G a (fla (scS x, scF x, upN (scB x) p_ c_, x.2.2.2)) gh sl sv r o k t m e w tx cl (hlN hl) tl sp rd]) ∧ v9_ = some (.int (nI (scB x p_))) ∧ (HI (hlN hl) (hhN x hl hh) gh)) := by
  refine Ctr.int (cc := cX5_paint) (maxL := 5) (ret := (some .int)) (lv0 := [some (.ref (a 0)), some (.int (nI (bN false))), some (.int (nI (p_))), some (.int (nI (c_))), none]) (by decide) rfl rfl rfl (Nat.le_of_ble_eq_true rfl) rfl (fun A X E hend => ?_)
  refine V.iload_n E dX5_paint_0 rfl rfl ?_
  refine V.callS E (c_X5_isPixel G (nI (p_)) ) (bl [mdW G a (fla x) hi sl sv r o k t m e w tx cl hl tl sp rd]) [] gX5_paint_X5_isPixel rfl hd_X5_isPixel ⟨⟨Nat.le_of_ble_eq_true rfl, Nat.le_of_ble_eq_true rfl⟩, Nat.le_of_ble_eq_true rfl, Nat.le_of_ble_eq_true rfl⟩ rfl (Nat.le_of_ble_eq_true rfl) rfl dX5_paint_1 (List.Perm.refl _) (kc' := 0) (ks' := 0) rfl rfl (rwI (ws' := (bl [mdW G a (fla x) hi sl sv r o k t m e w tx cl hl tl sp rd])) (List.Perm.refl _) ?_)
  refine V.if_neB (tgt := 9) E dX5_paint_4 (by decide) (fun q_4 => ?_) (fun q_4 => ?_)
  · refine V.iload_n E dX5_paint_9 rfl rfl ?_
    refine V.callS E (c_X5_isColour G (nI (c_)) ) (bl [mdW G a (fla x) hi sl sv r o k t m e w tx cl hl tl sp rd]) [] gX5_paint_X5_isColour rfl hd_X5_isColour ⟨⟨Nat.le_of_ble_eq_true rfl, Nat.le_of_ble_eq_true rfl⟩, Nat.le_of_ble_eq_true rfl, Nat.le_of_ble_eq_true rfl⟩ rfl (Nat.le_of_ble_eq_true rfl) rfl dX5_paint_10 (List.Perm.refl _) (kc' := 0) (ks' := 0) rfl rfl (rwI (ws' := (bl [mdW G a (fla x) hi sl sv r o k t m e w tx cl hl tl sp rd])) (List.Perm.refl _) ?_)
    refine V.if_neB (tgt := 19) E dX5_paint_13 (by decide) (fun q_13 => ?_) (fun q_13 => ?_)
    · refine V.aload_n E dX5_paint_19 rfl rfl ?_
      refine V.callV (C := RX5) E (c_X5_changes G a hi sl sv r o k t m e w tx cl hl tl sp rd x hh (hl6) (hH)) (bl []) [] 0 5 rfl rfl rfl gX5_paint_X5_changes rfl ⟨rfl, hd_X5_changes⟩ ⟨⟨Nat.le_of_ble_eq_true rfl, Nat.le_of_ble_eq_true rfl⟩, Nat.le_of_ble_eq_true rfl, Nat.le_of_ble_eq_true rfl⟩ rfl (Nat.le_of_ble_eq_true rfl) rfl dX5_paint_20 (pBs (n := 1) [mdW G a (fla x) hi sl sv r o k t m e w tx cl hl tl sp rd] [0] [] rfl (by decide)) (kc' := 0) (ks' := 0) rfl rfl (rxV (ws' := fun (g_20 : Nat → Nat) => (bl [mdW G a (fla x) g_20 sl sv r o k t m e w tx cl (hlN hl) tl sp rd])) (fun g_20 => (pBs (n := 1) [mdW G a (fla x) g_20 sl sv r o k t m e w tx cl (hlN hl) tl sp rd] [0] [] rfl (by decide)).symm) (fun g_20 hf_20 => ?_))
      refine V.aload_n E dX5_paint_23 rfl rfl ?_
      refine V.getf (C := RX5) (T := TX5) (N := 17) (ref := "GlassSpillModel") E 0 5 0 (by decide +kernel) rfl rfl (by decide) (by decide +kernel) rfl rfl dX5_paint_24 ?_
      refine V.iload_n E dX5_paint_27 rfl rfl ?_
      refine V.callS E (c_X5_picture_f G  ) (bl [mdW G a (fla x) g_20 sl sv r o k t m e w tx cl (hlN hl) tl sp rd]) [.ref (a 1)] gX5_paint_X5_picture rfl hd_X5_picture ⟨⟨Nat.le_of_ble_eq_true rfl, Nat.le_of_ble_eq_true rfl⟩, Nat.le_of_ble_eq_true rfl, Nat.le_of_ble_eq_true rfl⟩ rfl (Nat.le_of_ble_eq_true rfl) rfl dX5_paint_28 (List.Perm.refl _) (kc' := 0) (ks' := 0) rfl rfl (rwI (ws' := (bl [mdW G a (fla x) g_20 sl sv r o k t m e w tx cl (hlN hl) tl sp rd])) (List.Perm.refl _) ?_)
      refine V.iload_n E dX5_paint_31 rfl rfl ?_
      refine V.iaddN E  dX5_paint_32 ?_
      refine V.ialdN (v := nI (scB x p_)) E 1 rfl (by omega) (by decide) (congrArg nI (fla_B _ (by omega))) dX5_paint_33 ?_
      refine V.istore (lv' := [some (.ref (a 0)), some (.int (nI (bN false))), some (.int (nI (p_))), some (.int (nI (c_))), some (.int (nI (scB x p_)))]) E dX5_paint_34 (Nat.le_of_ble_eq_true rfl) rfl rfl ?_
      refine V.aload_n E dX5_paint_36 rfl rfl ?_
      refine V.getf (C := RX5) (T := TX5) (N := 17) (ref := "GlassSpillModel") E 0 5 0 (by decide +kernel) rfl rfl (by decide) (by decide +kernel) rfl rfl dX5_paint_37 ?_
      refine V.iload_n E dX5_paint_40 rfl rfl ?_
      refine V.callS E (c_X5_picture_f G  ) (bl [mdW G a (fla x) g_20 sl sv r o k t m e w tx cl (hlN hl) tl sp rd]) [.ref (a 1)] gX5_paint_X5_picture rfl hd_X5_picture ⟨⟨Nat.le_of_ble_eq_true rfl, Nat.le_of_ble_eq_true rfl⟩, Nat.le_of_ble_eq_true rfl, Nat.le_of_ble_eq_true rfl⟩ rfl (Nat.le_of_ble_eq_true rfl) rfl dX5_paint_41 (List.Perm.refl _) (kc' := 0) (ks' := 0) rfl rfl (rwI (ws' := (bl [mdW G a (fla x) g_20 sl sv r o k t m e w tx cl (hlN hl) tl sp rd])) (List.Perm.refl _) ?_)
      refine V.iload_n E dX5_paint_44 rfl rfl ?_
      refine V.iaddN E  dX5_paint_45 ?_
      refine V.iload_n E dX5_paint_46 rfl rfl ?_
      refine V.iastN (f' := nA (fla (scS x, scF x, upN (scB x) p_ c_, x.2.2.2))) (ws' := (bl [mdW G a (fla (scS x, scF x, upN (scB x) p_ c_, x.2.2.2)) g_20 sl sv r o k t m e w tx cl (hlN hl) tl sp rd])) E 1 rfl (by omega) (by decide) dX5_paint_47 (fun j _ => fla_uB x hp j) rfl ?_
      refine V.iload E dX5_paint_48 rfl ?_
      exact hend _ _ _ _ dX5_paint_50 (nrI _) ⟨g_20, rfl, rfl, hf_20⟩
    · exact absurd ((okI_n hc (by omega)).symm.trans q_13) (by decide)
  · exact absurd ((okI_n hp (by omega)).symm.trans q_4) (by decide)
/-- a pixel in the rectangle between two -/
def inR (p r j : Nat) : Bool := decide (min (p % 8) (r % 8) ≤ j % 8 ∧ j % 8 ≤ max (p % 8) (r % 8)) && decide (min (p / 8) (r / 8) ≤ j / 8 ∧ j / 8 ≤ max (p / 8) (r / 8))
def filR (p r c : Nat) (f : Nat → Nat) : Nat → Nat := fun j => if inR p r j = true then c else f j
theorem upN_fil {p r c i : Nat} {f : Nat → Nat} (h : inR p r i = true) (j : Nat) : upN (mxn i (filR p r c f) f) i c j = mxn (i + 1) (filR p r c f) f j := by
  have e : c = filR p r c f i := (if_pos h).symm
  have h2 := upN_m (i := i) (a := filR p r c f) (b := f) j
  rw [← e] at h2
  exact h2
theorem mxn_k {i : Nat} {a b : Nat → Nat} (h : b i = a i) (j : Nat) : mxn i a b j = mxn (i + 1) a b j := by
  unfold mxn
  by_cases e : j = i
  · subst e; rw [if_neg (by omega), if_pos (by omega)]; exact h
  · by_cases e2 : j < i
    · rw [if_pos e2, if_pos (by omega)]
    · rw [if_neg e2, if_neg (by omega)]
abbrev rm_c_X5_fill_bad : Room := { frames := 2, cells := 0, slots := 0, locals := 45 }
theorem hd_X5_fill : yX5_fill.cls ≠ "java/lang/invoke/MethodHandle" ∧ yX5_fill.cls ≠ "java/lang/invoke/VarHandle" ∧ (parseMethodDescriptor yX5_fill.desc).map (fun d => d.parameters.length) = some 4 := by decide +kernel
set_option maxRecDepth 100000 in
set_option maxHeartbeats 8000000 in
theorem c_X5_fill_bad (G : VC) (a : Nat → Nat) (hi : Nat → Nat) (sl : Nat → Nat) (sv : Nat → Nat) (r : Nat → Nat) (o : Nat → Nat) (k : Nat → Nat) (t : Nat → Nat) (m : Nat → Nat) (e : Nat → Nat) (w : Nat → Nat) (tx : Nat → Nat) (cl : Nat → Int32) (hl : Nat) (tl : Nat) (sp : Nat) (rd : Nat) (x : SC) (b_ : Nat) (p_ : Int32) (r_ : Int32) (c_ : Int32) (hb : (okI 48 p_ && okI 48 r_) = false) : Ctr yX5_fill wsX5_fill rm_c_X5_fill_bad G [.ref (a 0), .int (nI (b_)), .int (p_), .int (r_), .int (c_)] (bl [mdW G a (fla x) hi sl sv r o k t m e w tx cl hl tl sp rd]) (fun v9_ u9_ => u9_ = (bl [mdW G a (fla x) hi sl sv r o k t m e w tx cl hl tl sp rd]) ∧ v9_ = some (.int ((-1 : Int32)))) := by
  refine Ctr.int (cc := cX5_fill) (maxL := 7) (ret := (some .int)) (lv0 := [some (.ref (a 0)), some (.int (nI (b_))), some (.int (p_)), some (.int (r_)), some (.int (c_)), none, none]) (by decide) rfl rfl rfl (Nat.le_of_ble_eq_true rfl) rfl (fun A X E hend => ?_)
  refine V.iload_n E dX5_fill_0 rfl rfl ?_
  refine V.callS E (c_X5_isPixel G p_ ) (bl [mdW G a (fla x) hi sl sv r o k t m e w tx cl hl tl sp rd]) [] gX5_fill_X5_isPixel rfl hd_X5_isPixel ⟨⟨Nat.le_of_ble_eq_true rfl, Nat.le_of_ble_eq_true rfl⟩, Nat.le_of_ble_eq_true rfl, Nat.le_of_ble_eq_true rfl⟩ rfl (Nat.le_of_ble_eq_true rfl) rfl dX5_fill_1 (List.Perm.refl _) (kc' := 0) (ks' := 0) rfl rfl (rwI (ws' := (bl [mdW G a (fla x) hi sl sv r o k t m e w tx cl hl tl sp rd])) (List.Perm.refl _) ?_)
  refine V.if_eqB (tgt := 14) E dX5_fill_4 (by decide) (fun q_4 => ?_) (fun q_4 => ?_)
  · refine V.iconst (v := (-1 : Int32)) E dX5_fill_14 (by decide) ?_
    exact hend _ _ _ _ dX5_fill_15 (nrI _) ⟨rfl, rfl⟩
  · refine V.iload_n E dX5_fill_7 rfl rfl ?_
    refine V.callS E (c_X5_isPixel G r_ ) (bl [mdW G a (fla x) hi sl sv r o k t m e w tx cl hl tl sp rd]) [] gX5_fill_X5_isPixel rfl hd_X5_isPixel ⟨⟨Nat.le_of_ble_eq_true rfl, Nat.le_of_ble_eq_true rfl⟩, Nat.le_of_ble_eq_true rfl, Nat.le_of_ble_eq_true rfl⟩ rfl (Nat.le_of_ble_eq_true rfl) rfl dX5_fill_8 (List.Perm.refl _) (kc' := 0) (ks' := 0) rfl rfl (rwI (ws' := (bl [mdW G a (fla x) hi sl sv r o k t m e w tx cl hl tl sp rd])) (List.Perm.refl _) ?_)
    refine V.if_neB (tgt := 16) E dX5_fill_11 (by decide) (fun q_11 => ?_) (fun q_11 => ?_)
    · exact absurd (hb.symm.trans (by rw [q_4, q_11] <;> rfl)) (by decide)
    · refine V.iconst (v := (-1 : Int32)) E dX5_fill_14 (by decide) ?_
      exact hend _ _ _ _ dX5_fill_15 (nrI _) ⟨rfl, rfl⟩
abbrev rm_c_X5_fill_bc : Room := { frames := 2, cells := 0, slots := 0, locals := 45 }
set_option maxRecDepth 100000 in
set_option maxHeartbeats 8000000 in
theorem c_X5_fill_bc (G : VC) (a : Nat → Nat) (hi : Nat → Nat) (sl : Nat → Nat) (sv : Nat → Nat) (r : Nat → Nat) (o : Nat → Nat) (k : Nat → Nat) (t : Nat → Nat) (m : Nat → Nat) (e : Nat → Nat) (w : Nat → Nat) (tx : Nat → Nat) (cl : Nat → Int32) (hl : Nat) (tl : Nat) (sp : Nat) (rd : Nat) (x : SC) (b_ : Nat) (p_ : Nat) (r_ : Nat) (c_ : Int32) (hp : p_ < 48) (hr_ : r_ < 48) (hb : okI 4096 c_ = false) : Ctr yX5_fill wsX5_fill rm_c_X5_fill_bc G [.ref (a 0), .int (nI (b_)), .int (nI (p_)), .int (nI (r_)), .int (c_)] (bl [mdW G a (fla x) hi sl sv r o k t m e w tx cl hl tl sp rd]) (fun v9_ u9_ => u9_ = (bl [mdW G a (fla x) hi sl sv r o k t m e w tx cl hl tl sp rd]) ∧ v9_ = some (.int ((-2 : Int32)))) := by
  refine Ctr.int (cc := cX5_fill) (maxL := 7) (ret := (some .int)) (lv0 := [some (.ref (a 0)), some (.int (nI (b_))), some (.int (nI (p_))), some (.int (nI (r_))), some (.int (c_)), none, none]) (by decide) rfl rfl rfl (Nat.le_of_ble_eq_true rfl) rfl (fun A X E hend => ?_)
  refine V.iload_n E dX5_fill_0 rfl rfl ?_
  refine V.callS E (c_X5_isPixel G (nI (p_)) ) (bl [mdW G a (fla x) hi sl sv r o k t m e w tx cl hl tl sp rd]) [] gX5_fill_X5_isPixel rfl hd_X5_isPixel ⟨⟨Nat.le_of_ble_eq_true rfl, Nat.le_of_ble_eq_true rfl⟩, Nat.le_of_ble_eq_true rfl, Nat.le_of_ble_eq_true rfl⟩ rfl (Nat.le_of_ble_eq_true rfl) rfl dX5_fill_1 (List.Perm.refl _) (kc' := 0) (ks' := 0) rfl rfl (rwI (ws' := (bl [mdW G a (fla x) hi sl sv r o k t m e w tx cl hl tl sp rd])) (List.Perm.refl _) ?_)
  refine V.if_eqB (tgt := 14) E dX5_fill_4 (by decide) (fun q_4 => ?_) (fun q_4 => ?_)
  · exact absurd ((okI_n hp (by omega)).symm.trans q_4) (by decide)
  · refine V.iload_n E dX5_fill_7 rfl rfl ?_
    refine V.callS E (c_X5_isPixel G (nI (r_)) ) (bl [mdW G a (fla x) hi sl sv r o k t m e w tx cl hl tl sp rd]) [] gX5_fill_X5_isPixel rfl hd_X5_isPixel ⟨⟨Nat.le_of_ble_eq_true rfl, Nat.le_of_ble_eq_true rfl⟩, Nat.le_of_ble_eq_true rfl, Nat.le_of_ble_eq_true rfl⟩ rfl (Nat.le_of_ble_eq_true rfl) rfl dX5_fill_8 (List.Perm.refl _) (kc' := 0) (ks' := 0) rfl rfl (rwI (ws' := (bl [mdW G a (fla x) hi sl sv r o k t m e w tx cl hl tl sp rd])) (List.Perm.refl _) ?_)
    refine V.if_neB (tgt := 16) E dX5_fill_11 (by decide) (fun q_11 => ?_) (fun q_11 => ?_)
    · refine V.iload E dX5_fill_16 rfl ?_
      refine V.callS E (c_X5_isColour G c_ ) (bl [mdW G a (fla x) hi sl sv r o k t m e w tx cl hl tl sp rd]) [] gX5_fill_X5_isColour rfl hd_X5_isColour ⟨⟨Nat.le_of_ble_eq_true rfl, Nat.le_of_ble_eq_true rfl⟩, Nat.le_of_ble_eq_true rfl, Nat.le_of_ble_eq_true rfl⟩ rfl (Nat.le_of_ble_eq_true rfl) rfl dX5_fill_18 (List.Perm.refl _) (kc' := 0) (ks' := 0) rfl rfl (rwI (ws' := (bl [mdW G a (fla x) hi sl sv r o k t m e w tx cl hl tl sp rd])) (List.Perm.refl _) ?_)
      refine V.if_neB (tgt := 27) E dX5_fill_21 (by decide) (fun q_21 => ?_) (fun q_21 => ?_)
      · exact absurd (hb.symm.trans q_21) (by decide)
      · refine V.bipush (v := (-2 : Int32)) E dX5_fill_24 (by decide) ?_
        exact hend _ _ _ _ dX5_fill_26 (nrI _) ⟨rfl, rfl⟩
    · exact absurd ((okI_n hr_ (by omega)).symm.trans q_11) (by decide)
abbrev rm_c_X5_fill_t : Room := { frames := 2, cells := 0, slots := 0, locals := 47 }
set_option maxRecDepth 100000 in
set_option maxHeartbeats 8000000 in
theorem c_X5_fill_t (G : VC) (a : Nat → Nat) (hi : Nat → Nat) (sl : Nat → Nat) (sv : Nat → Nat) (r : Nat → Nat) (o : Nat → Nat) (k : Nat → Nat) (t : Nat → Nat) (m : Nat → Nat) (e : Nat → Nat) (w : Nat → Nat) (tx : Nat → Nat) (cl : Nat → Int32) (hl : Nat) (tl : Nat) (sp : Nat) (rd : Nat) (x : SC) (hh : Nat → SC) (p_ : Nat) (r_ : Nat) (c_ : Nat) (hl6 : hl ≤ 6) (hH : HI hl hh hi) (hp : p_ < 48) (hr_ : r_ < 48) (hc : c_ < 4096) : Ctr yX5_fill wsX5_fill rm_c_X5_fill_t G [.ref (a 0), .int (nI (bN true)), .int (nI (p_)), .int (nI (r_)), .int (nI (c_))] (bl [mdW G a (fla x) hi sl sv r o k t m e w tx cl hl tl sp rd]) (fun v9_ u9_ => ∃ gh : Nat → Nat, u9_ = (bl [mdW G a (fla (scS x, filR p_ r_ c_ (scF x), x.2.2)) gh sl sv r o k t m e w tx cl (hlN hl) tl sp rd]) ∧ v9_ = some (.int (nI (sumN 48 (fun j => bN (inR p_ r_ j))))) ∧ (HI (hlN hl) (hhN x hl hh) gh)) := by
  refine Ctr.int (cc := cX5_fill) (maxL := 7) (ret := (some .int)) (lv0 := [some (.ref (a 0)), some (.int (nI (bN true))), some (.int (nI (p_))), some (.int (nI (r_))), some (.int (nI (c_))), none, none]) (by decide) rfl rfl rfl (Nat.le_of_ble_eq_true rfl) rfl (fun A X E hend => ?_)
  refine V.iload_n E dX5_fill_0 rfl rfl ?_
  refine V.callS E (c_X5_isPixel G (nI (p_)) ) (bl [mdW G a (fla x) hi sl sv r o k t m e w tx cl hl tl sp rd]) [] gX5_fill_X5_isPixel rfl hd_X5_isPixel ⟨⟨Nat.le_of_ble_eq_true rfl, Nat.le_of_ble_eq_true rfl⟩, Nat.le_of_ble_eq_true rfl, Nat.le_of_ble_eq_true rfl⟩ rfl (Nat.le_of_ble_eq_true rfl) rfl dX5_fill_1 (List.Perm.refl _) (kc' := 0) (ks' := 0) rfl rfl (rwI (ws' := (bl [mdW G a (fla x) hi sl sv r o k t m e w tx cl hl tl sp rd])) (List.Perm.refl _) ?_)
  refine V.if_eqB (tgt := 14) E dX5_fill_4 (by decide) (fun q_4 => ?_) (fun q_4 => ?_)
  · exact absurd ((okI_n hp (by omega)).symm.trans q_4) (by decide)
  · refine V.iload_n E dX5_fill_7 rfl rfl ?_
    refine V.callS E (c_X5_isPixel G (nI (r_)) ) (bl [mdW G a (fla x) hi sl sv r o k t m e w tx cl hl tl sp rd]) [] gX5_fill_X5_isPixel rfl hd_X5_isPixel ⟨⟨Nat.le_of_ble_eq_true rfl, Nat.le_of_ble_eq_true rfl⟩, Nat.le_of_ble_eq_true rfl, Nat.le_of_ble_eq_true rfl⟩ rfl (Nat.le_of_ble_eq_true rfl) rfl dX5_fill_8 (List.Perm.refl _) (kc' := 0) (ks' := 0) rfl rfl (rwI (ws' := (bl [mdW G a (fla x) hi sl sv r o k t m e w tx cl hl tl sp rd])) (List.Perm.refl _) ?_)
    refine V.if_neB (tgt := 16) E dX5_fill_11 (by decide) (fun q_11 => ?_) (fun q_11 => ?_)
    · refine V.iload E dX5_fill_16 rfl ?_
      refine V.callS E (c_X5_isColour G (nI (c_)) ) (bl [mdW G a (fla x) hi sl sv r o k t m e w tx cl hl tl sp rd]) [] gX5_fill_X5_isColour rfl hd_X5_isColour ⟨⟨Nat.le_of_ble_eq_true rfl, Nat.le_of_ble_eq_true rfl⟩, Nat.le_of_ble_eq_true rfl, Nat.le_of_ble_eq_true rfl⟩ rfl (Nat.le_of_ble_eq_true rfl) rfl dX5_fill_18 (List.Perm.refl _) (kc' := 0) (ks' := 0) rfl rfl (rwI (ws' := (bl [mdW G a (fla x) hi sl sv r o k t m e w tx cl hl tl sp rd])) (List.Perm.refl _) ?_)
      refine V.if_neB (tgt := 27) E dX5_fill_21 (by decide) (fun q_21 => ?_) (fun q_21 => ?_)
      · refine V.aload_n E dX5_fill_27 rfl rfl ?_
        refine V.callV (C := RX5) E (c_X5_changes G a hi sl sv r o k t m e w tx cl hl tl sp rd x hh (hl6) (hH)) (bl []) [] 0 5 rfl rfl rfl gX5_fill_X5_changes rfl ⟨rfl, hd_X5_changes⟩ ⟨⟨Nat.le_of_ble_eq_true rfl, Nat.le_of_ble_eq_true rfl⟩, Nat.le_of_ble_eq_true rfl, Nat.le_of_ble_eq_true rfl⟩ rfl (Nat.le_of_ble_eq_true rfl) rfl dX5_fill_28 (pBs (n := 1) [mdW G a (fla x) hi sl sv r o k t m e w tx cl hl tl sp rd] [0] [] rfl (by decide)) (kc' := 0) (ks' := 0) rfl rfl (rxV (ws' := fun (g_28 : Nat → Nat) => (bl [mdW G a (fla x) g_28 sl sv r o k t m e w tx cl (hlN hl) tl sp rd])) (fun g_28 => (pBs (n := 1) [mdW G a (fla x) g_28 sl sv r o k t m e w tx cl (hlN hl) tl sp rd] [0] [] rfl (by decide)).symm) (fun g_28 hf_28 => ?_))
        refine V.iconst (v := nI (0)) E dX5_fill_31 (by decide) ?_
        refine V.istore (lv' := [some (.ref (a 0)), some (.int (nI (bN true))), some (.int (nI (p_))), some (.int (nI (r_))), some (.int (nI (c_))), some (.int (nI (0))), none]) E dX5_fill_32 (Nat.le_of_ble_eq_true rfl) rfl rfl ?_
        refine V.iconst (v := nI (0)) E dX5_fill_34 (by decide) ?_
        refine V.istore (lv' := [some (.ref (a 0)), some (.int (nI (bN true))), some (.int (nI (p_))), some (.int (nI (r_))), some (.int (nI (c_))), some (.int (nI (0))), some (.int (nI (0)))]) E dX5_fill_35 (Nat.le_of_ble_eq_true rfl) rfl rfl ?_
        refine V.locN (b := sumN 0 (fun j => bN (inR p_ r_ j))) (lv' := [some (.ref (a 0)), some (.int (nI (bN true))), some (.int (nI (p_))), some (.int (nI (r_))), some (.int (nI (c_))), some (.int (nI (sumN 0 (fun j => bN (inR p_ r_ j))))), some (.int (nI (0)))]) 5 (rfl) rfl rfl ?_
        refine V.arr (f' := nA (fla (scS x, mxn 0 (filR p_ r_ c_ (scF x)) (scF x), x.2.2))) (ws' := (bl [mdW G a (fla (scS x, mxn 0 (filR p_ r_ c_ (scF x)) (scF x), x.2.2)) g_28 sl sv r o k t m e w tx cl (hlN hl) tl sp rd])) 1 rfl (fun j hj => fla_cF (fun j _ => (mxn_hi (a := filR p_ r_ c_ (scF x)) (Nat.zero_le j)).symm) hj) rfl ?_
        refine loopN (P := fun i37 => V G A X rm_c_X5_fill_t (bl [mdW G a (fla (scS x, mxn i37 (filR p_ r_ c_ (scF x)) (scF x), x.2.2)) g_28 sl sv r o k t m e w tx cl (hlN hl) tl sp rd]) 0 0 37 [some (.ref (a 0)), some (.int (nI (bN true))), some (.int (nI (p_))), some (.int (nI (r_))), some (.int (nI (c_))), some (.int (nI (sumN i37 (fun j => bN (inR p_ r_ j))))), some (.int (nI (i37)))] []) 48 (fun i37 hi_37 ih_37 => ?_) 0 (Nat.zero_le _)
        refine V.iload E dX5_fill_37 rfl ?_
        refine V.bipush (v := nI (48)) E dX5_fill_39 (by decide) ?_
        refine V.icmp_geN (tgt := 105) E (by omega) (by omega) dX5_fill_41 (by decide) (fun q_41 => ?_) (fun q_41 => ?_)
        · obtain rfl : i37 = 48 := by omega
          refine V.arr (f' := nA (fla (scS x, filR p_ r_ c_ (scF x), x.2.2))) (ws' := (bl [mdW G a (fla (scS x, filR p_ r_ c_ (scF x), x.2.2)) g_28 sl sv r o k t m e w tx cl (hlN hl) tl sp rd])) 1 rfl (fun j hj => fla_cF (fun j hj2 => mxn_lo hj2) hj) rfl ?_
          refine V.iload E dX5_fill_105 rfl ?_
          exact hend _ _ _ _ dX5_fill_107 (nrI _) ⟨g_28, rfl, rfl, hf_28⟩
        · refine V.iload E dX5_fill_44 rfl ?_
          refine V.bipush (v := nI (8)) E dX5_fill_46 (by decide) ?_
          refine V.iremN E (by omega) (by omega) (by omega) dX5_fill_48 ?_
          refine V.iload_n E dX5_fill_49 rfl rfl ?_
          refine V.bipush (v := nI (8)) E dX5_fill_50 (by decide) ?_
          refine V.iremN E (by omega) (by omega) (by omega) dX5_fill_52 ?_
          refine V.iload_n E dX5_fill_53 rfl rfl ?_
          refine V.bipush (v := nI (8)) E dX5_fill_54 (by decide) ?_
          refine V.iremN E (by omega) (by omega) (by omega) dX5_fill_56 ?_
          refine V.callS E (c_X5_isBetween G (i37 % 8) (p_ % 8) (r_ % 8) (by omega) (by omega) (by omega)) (bl [mdW G a (fla (scS x, mxn i37 (filR p_ r_ c_ (scF x)) (scF x), x.2.2)) g_28 sl sv r o k t m e w tx cl (hlN hl) tl sp rd]) [] gX5_fill_X5_isBetween rfl hd_X5_isBetween ⟨⟨Nat.le_of_ble_eq_true rfl, Nat.le_of_ble_eq_true rfl⟩, Nat.le_of_ble_eq_true rfl, Nat.le_of_ble_eq_true rfl⟩ rfl (Nat.le_of_ble_eq_true rfl) rfl dX5_fill_57 (List.Perm.refl _) (kc' := 0) (ks' := 0) rfl rfl (rwI (ws' := (bl [mdW G a (fla (scS x, mxn i37 (filR p_ r_ c_ (scF x)) (scF x), x.2.2)) g_28 sl sv r o k t m e w tx cl (hlN hl) tl sp rd])) (List.Perm.refl _) ?_)
          refine V.if_eqB (tgt := 99) E dX5_fill_60 (by decide) (fun q_60 => ?_) (fun q_60 => ?_)
          · refine V.iincN (lv' := [some (.ref (a 0)), some (.int (nI (bN true))), some (.int (nI (p_))), some (.int (nI (r_))), some (.int (nI (c_))), some (.int (nI (sumN i37 (fun j => bN (inR p_ r_ j))))), some (.int (nI (i37 + 1)))]) E dX5_fill_99 rfl (Nat.le_of_ble_eq_true rfl) rfl rfl ?_
            refine V.goto (tgt := 37) E dX5_fill_102 (by decide) ?_
            refine V.locN (b := sumN (i37 + 1) (fun j => bN (inR p_ r_ j))) (lv' := [some (.ref (a 0)), some (.int (nI (bN true))), some (.int (nI (p_))), some (.int (nI (r_))), some (.int (nI (c_))), some (.int (nI (sumN (i37 + 1) (fun j => bN (inR p_ r_ j))))), some (.int (nI (i37 + 1)))]) 5 (by rw [sumN]; unfold inR; rw [q_60, Bool.false_and]; rfl) rfl rfl ?_
            refine V.arr (f' := nA (fla (scS x, mxn (i37 + 1) (filR p_ r_ c_ (scF x)) (scF x), x.2.2))) (ws' := (bl [mdW G a (fla (scS x, mxn (i37 + 1) (filR p_ r_ c_ (scF x)) (scF x), x.2.2)) g_28 sl sv r o k t m e w tx cl (hlN hl) tl sp rd])) 1 rfl (fun j hj => fla_cF (fun j _ => mxn_k (by unfold filR inR; rw [q_60, Bool.false_and]; simp) j) hj) rfl ?_
            exact ih_37 (by omega)
          · refine V.iload E dX5_fill_63 rfl ?_
            refine V.bipush (v := nI (8)) E dX5_fill_65 (by decide) ?_
            refine V.idivN E (by omega) (by omega) (by omega) dX5_fill_67 ?_
            refine V.iload_n E dX5_fill_68 rfl rfl ?_
            refine V.bipush (v := nI (8)) E dX5_fill_69 (by decide) ?_
            refine V.idivN E (by omega) (by omega) (by omega) dX5_fill_71 ?_
            refine V.iload_n E dX5_fill_72 rfl rfl ?_
            refine V.bipush (v := nI (8)) E dX5_fill_73 (by decide) ?_
            refine V.idivN E (by omega) (by omega) (by omega) dX5_fill_75 ?_
            refine V.callS E (c_X5_isBetween G (i37 / 8) (p_ / 8) (r_ / 8) (by omega) (by omega) (by omega)) (bl [mdW G a (fla (scS x, mxn i37 (filR p_ r_ c_ (scF x)) (scF x), x.2.2)) g_28 sl sv r o k t m e w tx cl (hlN hl) tl sp rd]) [] gX5_fill_X5_isBetween rfl hd_X5_isBetween ⟨⟨Nat.le_of_ble_eq_true rfl, Nat.le_of_ble_eq_true rfl⟩, Nat.le_of_ble_eq_true rfl, Nat.le_of_ble_eq_true rfl⟩ rfl (Nat.le_of_ble_eq_true rfl) rfl dX5_fill_76 (List.Perm.refl _) (kc' := 0) (ks' := 0) rfl rfl (rwI (ws' := (bl [mdW G a (fla (scS x, mxn i37 (filR p_ r_ c_ (scF x)) (scF x), x.2.2)) g_28 sl sv r o k t m e w tx cl (hlN hl) tl sp rd])) (List.Perm.refl _) ?_)
            refine V.if_eqB (tgt := 99) E dX5_fill_79 (by decide) (fun q_79 => ?_) (fun q_79 => ?_)
            · refine V.iincN (lv' := [some (.ref (a 0)), some (.int (nI (bN true))), some (.int (nI (p_))), some (.int (nI (r_))), some (.int (nI (c_))), some (.int (nI (sumN i37 (fun j => bN (inR p_ r_ j))))), some (.int (nI (i37 + 1)))]) E dX5_fill_99 rfl (Nat.le_of_ble_eq_true rfl) rfl rfl ?_
              refine V.goto (tgt := 37) E dX5_fill_102 (by decide) ?_
              refine V.locN (b := sumN (i37 + 1) (fun j => bN (inR p_ r_ j))) (lv' := [some (.ref (a 0)), some (.int (nI (bN true))), some (.int (nI (p_))), some (.int (nI (r_))), some (.int (nI (c_))), some (.int (nI (sumN (i37 + 1) (fun j => bN (inR p_ r_ j))))), some (.int (nI (i37 + 1)))]) 5 (by rw [sumN]; unfold inR; rw [q_79, Bool.and_false]; rfl) rfl rfl ?_
              refine V.arr (f' := nA (fla (scS x, mxn (i37 + 1) (filR p_ r_ c_ (scF x)) (scF x), x.2.2))) (ws' := (bl [mdW G a (fla (scS x, mxn (i37 + 1) (filR p_ r_ c_ (scF x)) (scF x), x.2.2)) g_28 sl sv r o k t m e w tx cl (hlN hl) tl sp rd])) 1 rfl (fun j hj => fla_cF (fun j _ => mxn_k (by unfold filR inR; rw [q_79, Bool.and_false]; simp) j) hj) rfl ?_
              exact ih_37 (by omega)
            · refine V.aload_n E dX5_fill_82 rfl rfl ?_
              refine V.getf (C := RX5) (T := TX5) (N := 17) (ref := "GlassSpillModel") E 0 5 0 (by decide +kernel) rfl rfl (by decide) (by decide +kernel) rfl rfl dX5_fill_83 ?_
              refine V.iload_n E dX5_fill_86 rfl rfl ?_
              refine V.callS E (c_X5_picture_t G  ) (bl [mdW G a (fla (scS x, mxn i37 (filR p_ r_ c_ (scF x)) (scF x), x.2.2)) g_28 sl sv r o k t m e w tx cl (hlN hl) tl sp rd]) [.ref (a 1)] gX5_fill_X5_picture rfl hd_X5_picture ⟨⟨Nat.le_of_ble_eq_true rfl, Nat.le_of_ble_eq_true rfl⟩, Nat.le_of_ble_eq_true rfl, Nat.le_of_ble_eq_true rfl⟩ rfl (Nat.le_of_ble_eq_true rfl) rfl dX5_fill_87 (List.Perm.refl _) (kc' := 0) (ks' := 0) rfl rfl (rwI (ws' := (bl [mdW G a (fla (scS x, mxn i37 (filR p_ r_ c_ (scF x)) (scF x), x.2.2)) g_28 sl sv r o k t m e w tx cl (hlN hl) tl sp rd])) (List.Perm.refl _) ?_)
              refine V.iload E dX5_fill_90 rfl ?_
              refine V.iaddN E  dX5_fill_92 ?_
              refine V.iload E dX5_fill_93 rfl ?_
              refine V.iastN (f' := nA (fla (scS x, mxn (i37 + 1) (filR p_ r_ c_ (scF x)) (scF x), x.2.2))) (ws' := (bl [mdW G a (fla (scS x, mxn (i37 + 1) (filR p_ r_ c_ (scF x)) (scF x), x.2.2)) g_28 sl sv r o k t m e w tx cl (hlN hl) tl sp rd])) E 1 rfl (by omega) (by decide) dX5_fill_95 (fun j hj => fla_vF (by omega) (fun j => upN_fil (by unfold inR; rw [q_60, q_79]; rfl) j) j) rfl ?_
              refine V.iincN (lv' := [some (.ref (a 0)), some (.int (nI (bN true))), some (.int (nI (p_))), some (.int (nI (r_))), some (.int (nI (c_))), some (.int (nI (sumN i37 (fun j => bN (inR p_ r_ j)) + 1))), some (.int (nI (i37)))]) E dX5_fill_96 rfl (Nat.le_of_ble_eq_true rfl) rfl rfl ?_
              refine V.iincN (lv' := [some (.ref (a 0)), some (.int (nI (bN true))), some (.int (nI (p_))), some (.int (nI (r_))), some (.int (nI (c_))), some (.int (nI (sumN i37 (fun j => bN (inR p_ r_ j)) + 1))), some (.int (nI (i37 + 1)))]) E dX5_fill_99 rfl (Nat.le_of_ble_eq_true rfl) rfl rfl ?_
              refine V.goto (tgt := 37) E dX5_fill_102 (by decide) ?_
              refine V.locN (b := sumN (i37 + 1) (fun j => bN (inR p_ r_ j))) (lv' := [some (.ref (a 0)), some (.int (nI (bN true))), some (.int (nI (p_))), some (.int (nI (r_))), some (.int (nI (c_))), some (.int (nI (sumN (i37 + 1) (fun j => bN (inR p_ r_ j))))), some (.int (nI (i37 + 1)))]) 5 (by rw [sumN]; unfold inR; rw [q_60, q_79]; rfl) rfl rfl ?_
              exact ih_37 (by omega)
      · exact absurd ((okI_n hc (by omega)).symm.trans q_21) (by decide)
    · exact absurd ((okI_n hr_ (by omega)).symm.trans q_11) (by decide)
abbrev rm_c_X5_fill_f : Room := { frames := 2, cells := 0, slots := 0, locals := 47 }
set_option maxRecDepth 100000 in
set_option maxHeartbeats 8000000 in
theorem c_X5_fill_f (G : VC) (a : Nat → Nat) (hi : Nat → Nat) (sl : Nat → Nat) (sv : Nat → Nat) (r : Nat → Nat) (o : Nat → Nat) (k : Nat → Nat) (t : Nat → Nat) (m : Nat → Nat) (e : Nat → Nat) (w : Nat → Nat) (tx : Nat → Nat) (cl : Nat → Int32) (hl : Nat) (tl : Nat) (sp : Nat) (rd : Nat) (x : SC) (hh : Nat → SC) (p_ : Nat) (r_ : Nat) (c_ : Nat) (hl6 : hl ≤ 6) (hH : HI hl hh hi) (hp : p_ < 48) (hr_ : r_ < 48) (hc : c_ < 4096) : Ctr yX5_fill wsX5_fill rm_c_X5_fill_f G [.ref (a 0), .int (nI (bN false)), .int (nI (p_)), .int (nI (r_)), .int (nI (c_))] (bl [mdW G a (fla x) hi sl sv r o k t m e w tx cl hl tl sp rd]) (fun v9_ u9_ => ∃ gh : Nat → Nat, u9_ = (bl [mdW G a (fla (scS x, scF x, filR p_ r_ c_ (scB x), x.2.2.2)) gh sl sv r o k t m e w tx cl (hlN hl) tl sp rd]) ∧ v9_ = some (.int (nI (sumN 48 (fun j => bN (inR p_ r_ j))))) ∧ (HI (hlN hl) (hhN x hl hh) gh)) := by
  refine Ctr.int (cc := cX5_fill) (maxL := 7) (ret := (some .int)) (lv0 := [some (.ref (a 0)), some (.int (nI (bN false))), some (.int (nI (p_))), some (.int (nI (r_))), some (.int (nI (c_))), none, none]) (by decide) rfl rfl rfl (Nat.le_of_ble_eq_true rfl) rfl (fun A X E hend => ?_)
  refine V.iload_n E dX5_fill_0 rfl rfl ?_
  refine V.callS E (c_X5_isPixel G (nI (p_)) ) (bl [mdW G a (fla x) hi sl sv r o k t m e w tx cl hl tl sp rd]) [] gX5_fill_X5_isPixel rfl hd_X5_isPixel ⟨⟨Nat.le_of_ble_eq_true rfl, Nat.le_of_ble_eq_true rfl⟩, Nat.le_of_ble_eq_true rfl, Nat.le_of_ble_eq_true rfl⟩ rfl (Nat.le_of_ble_eq_true rfl) rfl dX5_fill_1 (List.Perm.refl _) (kc' := 0) (ks' := 0) rfl rfl (rwI (ws' := (bl [mdW G a (fla x) hi sl sv r o k t m e w tx cl hl tl sp rd])) (List.Perm.refl _) ?_)
  refine V.if_eqB (tgt := 14) E dX5_fill_4 (by decide) (fun q_4 => ?_) (fun q_4 => ?_)
  · exact absurd ((okI_n hp (by omega)).symm.trans q_4) (by decide)
  · refine V.iload_n E dX5_fill_7 rfl rfl ?_
    refine V.callS E (c_X5_isPixel G (nI (r_)) ) (bl [mdW G a (fla x) hi sl sv r o k t m e w tx cl hl tl sp rd]) [] gX5_fill_X5_isPixel rfl hd_X5_isPixel ⟨⟨Nat.le_of_ble_eq_true rfl, Nat.le_of_ble_eq_true rfl⟩, Nat.le_of_ble_eq_true rfl, Nat.le_of_ble_eq_true rfl⟩ rfl (Nat.le_of_ble_eq_true rfl) rfl dX5_fill_8 (List.Perm.refl _) (kc' := 0) (ks' := 0) rfl rfl (rwI (ws' := (bl [mdW G a (fla x) hi sl sv r o k t m e w tx cl hl tl sp rd])) (List.Perm.refl _) ?_)
    refine V.if_neB (tgt := 16) E dX5_fill_11 (by decide) (fun q_11 => ?_) (fun q_11 => ?_)
    · refine V.iload E dX5_fill_16 rfl ?_
      refine V.callS E (c_X5_isColour G (nI (c_)) ) (bl [mdW G a (fla x) hi sl sv r o k t m e w tx cl hl tl sp rd]) [] gX5_fill_X5_isColour rfl hd_X5_isColour ⟨⟨Nat.le_of_ble_eq_true rfl, Nat.le_of_ble_eq_true rfl⟩, Nat.le_of_ble_eq_true rfl, Nat.le_of_ble_eq_true rfl⟩ rfl (Nat.le_of_ble_eq_true rfl) rfl dX5_fill_18 (List.Perm.refl _) (kc' := 0) (ks' := 0) rfl rfl (rwI (ws' := (bl [mdW G a (fla x) hi sl sv r o k t m e w tx cl hl tl sp rd])) (List.Perm.refl _) ?_)
      refine V.if_neB (tgt := 27) E dX5_fill_21 (by decide) (fun q_21 => ?_) (fun q_21 => ?_)
      · refine V.aload_n E dX5_fill_27 rfl rfl ?_
        refine V.callV (C := RX5) E (c_X5_changes G a hi sl sv r o k t m e w tx cl hl tl sp rd x hh (hl6) (hH)) (bl []) [] 0 5 rfl rfl rfl gX5_fill_X5_changes rfl ⟨rfl, hd_X5_changes⟩ ⟨⟨Nat.le_of_ble_eq_true rfl, Nat.le_of_ble_eq_true rfl⟩, Nat.le_of_ble_eq_true rfl, Nat.le_of_ble_eq_true rfl⟩ rfl (Nat.le_of_ble_eq_true rfl) rfl dX5_fill_28 (pBs (n := 1) [mdW G a (fla x) hi sl sv r o k t m e w tx cl hl tl sp rd] [0] [] rfl (by decide)) (kc' := 0) (ks' := 0) rfl rfl (rxV (ws' := fun (g_28 : Nat → Nat) => (bl [mdW G a (fla x) g_28 sl sv r o k t m e w tx cl (hlN hl) tl sp rd])) (fun g_28 => (pBs (n := 1) [mdW G a (fla x) g_28 sl sv r o k t m e w tx cl (hlN hl) tl sp rd] [0] [] rfl (by decide)).symm) (fun g_28 hf_28 => ?_))
        refine V.iconst (v := nI (0)) E dX5_fill_31 (by decide) ?_
        refine V.istore (lv' := [some (.ref (a 0)), some (.int (nI (bN false))), some (.int (nI (p_))), some (.int (nI (r_))), some (.int (nI (c_))), some (.int (nI (0))), none]) E dX5_fill_32 (Nat.le_of_ble_eq_true rfl) rfl rfl ?_
        refine V.iconst (v := nI (0)) E dX5_fill_34 (by decide) ?_
        refine V.istore (lv' := [some (.ref (a 0)), some (.int (nI (bN false))), some (.int (nI (p_))), some (.int (nI (r_))), some (.int (nI (c_))), some (.int (nI (0))), some (.int (nI (0)))]) E dX5_fill_35 (Nat.le_of_ble_eq_true rfl) rfl rfl ?_
        refine V.locN (b := sumN 0 (fun j => bN (inR p_ r_ j))) (lv' := [some (.ref (a 0)), some (.int (nI (bN false))), some (.int (nI (p_))), some (.int (nI (r_))), some (.int (nI (c_))), some (.int (nI (sumN 0 (fun j => bN (inR p_ r_ j))))), some (.int (nI (0)))]) 5 (rfl) rfl rfl ?_
        refine V.arr (f' := nA (fla (scS x, scF x, mxn 0 (filR p_ r_ c_ (scB x)) (scB x), x.2.2.2))) (ws' := (bl [mdW G a (fla (scS x, scF x, mxn 0 (filR p_ r_ c_ (scB x)) (scB x), x.2.2.2)) g_28 sl sv r o k t m e w tx cl (hlN hl) tl sp rd])) 1 rfl (fun j hj => fla_cB (fun j _ => (mxn_hi (a := filR p_ r_ c_ (scB x)) (Nat.zero_le j)).symm) hj) rfl ?_
        refine loopN (P := fun i37 => V G A X rm_c_X5_fill_f (bl [mdW G a (fla (scS x, scF x, mxn i37 (filR p_ r_ c_ (scB x)) (scB x), x.2.2.2)) g_28 sl sv r o k t m e w tx cl (hlN hl) tl sp rd]) 0 0 37 [some (.ref (a 0)), some (.int (nI (bN false))), some (.int (nI (p_))), some (.int (nI (r_))), some (.int (nI (c_))), some (.int (nI (sumN i37 (fun j => bN (inR p_ r_ j))))), some (.int (nI (i37)))] []) 48 (fun i37 hi_37 ih_37 => ?_) 0 (Nat.zero_le _)
        refine V.iload E dX5_fill_37 rfl ?_
        refine V.bipush (v := nI (48)) E dX5_fill_39 (by decide) ?_
        refine V.icmp_geN (tgt := 105) E (by omega) (by omega) dX5_fill_41 (by decide) (fun q_41 => ?_) (fun q_41 => ?_)
        · obtain rfl : i37 = 48 := by omega
          refine V.arr (f' := nA (fla (scS x, scF x, filR p_ r_ c_ (scB x), x.2.2.2))) (ws' := (bl [mdW G a (fla (scS x, scF x, filR p_ r_ c_ (scB x), x.2.2.2)) g_28 sl sv r o k t m e w tx cl (hlN hl) tl sp rd])) 1 rfl (fun j hj => fla_cB (fun j hj2 => mxn_lo hj2) hj) rfl ?_
          refine V.iload E dX5_fill_105 rfl ?_
          exact hend _ _ _ _ dX5_fill_107 (nrI _) ⟨g_28, rfl, rfl, hf_28⟩
        · refine V.iload E dX5_fill_44 rfl ?_
          refine V.bipush (v := nI (8)) E dX5_fill_46 (by decide) ?_
          refine V.iremN E (by omega) (by omega) (by omega) dX5_fill_48 ?_
          refine V.iload_n E dX5_fill_49 rfl rfl ?_
          refine V.bipush (v := nI (8)) E dX5_fill_50 (by decide) ?_
          refine V.iremN E (by omega) (by omega) (by omega) dX5_fill_52 ?_
          refine V.iload_n E dX5_fill_53 rfl rfl ?_
          refine V.bipush (v := nI (8)) E dX5_fill_54 (by decide) ?_
          refine V.iremN E (by omega) (by omega) (by omega) dX5_fill_56 ?_
          refine V.callS E (c_X5_isBetween G (i37 % 8) (p_ % 8) (r_ % 8) (by omega) (by omega) (by omega)) (bl [mdW G a (fla (scS x, scF x, mxn i37 (filR p_ r_ c_ (scB x)) (scB x), x.2.2.2)) g_28 sl sv r o k t m e w tx cl (hlN hl) tl sp rd]) [] gX5_fill_X5_isBetween rfl hd_X5_isBetween ⟨⟨Nat.le_of_ble_eq_true rfl, Nat.le_of_ble_eq_true rfl⟩, Nat.le_of_ble_eq_true rfl, Nat.le_of_ble_eq_true rfl⟩ rfl (Nat.le_of_ble_eq_true rfl) rfl dX5_fill_57 (List.Perm.refl _) (kc' := 0) (ks' := 0) rfl rfl (rwI (ws' := (bl [mdW G a (fla (scS x, scF x, mxn i37 (filR p_ r_ c_ (scB x)) (scB x), x.2.2.2)) g_28 sl sv r o k t m e w tx cl (hlN hl) tl sp rd])) (List.Perm.refl _) ?_)
          refine V.if_eqB (tgt := 99) E dX5_fill_60 (by decide) (fun q_60 => ?_) (fun q_60 => ?_)
          · refine V.iincN (lv' := [some (.ref (a 0)), some (.int (nI (bN false))), some (.int (nI (p_))), some (.int (nI (r_))), some (.int (nI (c_))), some (.int (nI (sumN i37 (fun j => bN (inR p_ r_ j))))), some (.int (nI (i37 + 1)))]) E dX5_fill_99 rfl (Nat.le_of_ble_eq_true rfl) rfl rfl ?_
            refine V.goto (tgt := 37) E dX5_fill_102 (by decide) ?_
            refine V.locN (b := sumN (i37 + 1) (fun j => bN (inR p_ r_ j))) (lv' := [some (.ref (a 0)), some (.int (nI (bN false))), some (.int (nI (p_))), some (.int (nI (r_))), some (.int (nI (c_))), some (.int (nI (sumN (i37 + 1) (fun j => bN (inR p_ r_ j))))), some (.int (nI (i37 + 1)))]) 5 (by rw [sumN]; unfold inR; rw [q_60, Bool.false_and]; rfl) rfl rfl ?_
            refine V.arr (f' := nA (fla (scS x, scF x, mxn (i37 + 1) (filR p_ r_ c_ (scB x)) (scB x), x.2.2.2))) (ws' := (bl [mdW G a (fla (scS x, scF x, mxn (i37 + 1) (filR p_ r_ c_ (scB x)) (scB x), x.2.2.2)) g_28 sl sv r o k t m e w tx cl (hlN hl) tl sp rd])) 1 rfl (fun j hj => fla_cB (fun j _ => mxn_k (by unfold filR inR; rw [q_60, Bool.false_and]; simp) j) hj) rfl ?_
            exact ih_37 (by omega)
          · refine V.iload E dX5_fill_63 rfl ?_
            refine V.bipush (v := nI (8)) E dX5_fill_65 (by decide) ?_
            refine V.idivN E (by omega) (by omega) (by omega) dX5_fill_67 ?_
            refine V.iload_n E dX5_fill_68 rfl rfl ?_
            refine V.bipush (v := nI (8)) E dX5_fill_69 (by decide) ?_
            refine V.idivN E (by omega) (by omega) (by omega) dX5_fill_71 ?_
            refine V.iload_n E dX5_fill_72 rfl rfl ?_
            refine V.bipush (v := nI (8)) E dX5_fill_73 (by decide) ?_
            refine V.idivN E (by omega) (by omega) (by omega) dX5_fill_75 ?_
            refine V.callS E (c_X5_isBetween G (i37 / 8) (p_ / 8) (r_ / 8) (by omega) (by omega) (by omega)) (bl [mdW G a (fla (scS x, scF x, mxn i37 (filR p_ r_ c_ (scB x)) (scB x), x.2.2.2)) g_28 sl sv r o k t m e w tx cl (hlN hl) tl sp rd]) [] gX5_fill_X5_isBetween rfl hd_X5_isBetween ⟨⟨Nat.le_of_ble_eq_true rfl, Nat.le_of_ble_eq_true rfl⟩, Nat.le_of_ble_eq_true rfl, Nat.le_of_ble_eq_true rfl⟩ rfl (Nat.le_of_ble_eq_true rfl) rfl dX5_fill_76 (List.Perm.refl _) (kc' := 0) (ks' := 0) rfl rfl (rwI (ws' := (bl [mdW G a (fla (scS x, scF x, mxn i37 (filR p_ r_ c_ (scB x)) (scB x), x.2.2.2)) g_28 sl sv r o k t m e w tx cl (hlN hl) tl sp rd])) (List.Perm.refl _) ?_)
            refine V.if_eqB (tgt := 99) E dX5_fill_79 (by decide) (fun q_79 => ?_) (fun q_79 => ?_)
            · refine V.iincN (lv' := [some (.ref (a 0)), some (.int (nI (bN false))), some (.int (nI (p_))), some (.int (nI (r_))), some (.int (nI (c_))), some (.int (nI (sumN i37 (fun j => bN (inR p_ r_ j))))), some (.int (nI (i37 + 1)))]) E dX5_fill_99 rfl (Nat.le_of_ble_eq_true rfl) rfl rfl ?_
              refine V.goto (tgt := 37) E dX5_fill_102 (by decide) ?_
              refine V.locN (b := sumN (i37 + 1) (fun j => bN (inR p_ r_ j))) (lv' := [some (.ref (a 0)), some (.int (nI (bN false))), some (.int (nI (p_))), some (.int (nI (r_))), some (.int (nI (c_))), some (.int (nI (sumN (i37 + 1) (fun j => bN (inR p_ r_ j))))), some (.int (nI (i37 + 1)))]) 5 (by rw [sumN]; unfold inR; rw [q_79, Bool.and_false]; rfl) rfl rfl ?_
              refine V.arr (f' := nA (fla (scS x, scF x, mxn (i37 + 1) (filR p_ r_ c_ (scB x)) (scB x), x.2.2.2))) (ws' := (bl [mdW G a (fla (scS x, scF x, mxn (i37 + 1) (filR p_ r_ c_ (scB x)) (scB x), x.2.2.2)) g_28 sl sv r o k t m e w tx cl (hlN hl) tl sp rd])) 1 rfl (fun j hj => fla_cB (fun j _ => mxn_k (by unfold filR inR; rw [q_79, Bool.and_false]; simp) j) hj) rfl ?_
              exact ih_37 (by omega)
            · refine V.aload_n E dX5_fill_82 rfl rfl ?_
              refine V.getf (C := RX5) (T := TX5) (N := 17) (ref := "GlassSpillModel") E 0 5 0 (by decide +kernel) rfl rfl (by decide) (by decide +kernel) rfl rfl dX5_fill_83 ?_
              refine V.iload_n E dX5_fill_86 rfl rfl ?_
              refine V.callS E (c_X5_picture_f G  ) (bl [mdW G a (fla (scS x, scF x, mxn i37 (filR p_ r_ c_ (scB x)) (scB x), x.2.2.2)) g_28 sl sv r o k t m e w tx cl (hlN hl) tl sp rd]) [.ref (a 1)] gX5_fill_X5_picture rfl hd_X5_picture ⟨⟨Nat.le_of_ble_eq_true rfl, Nat.le_of_ble_eq_true rfl⟩, Nat.le_of_ble_eq_true rfl, Nat.le_of_ble_eq_true rfl⟩ rfl (Nat.le_of_ble_eq_true rfl) rfl dX5_fill_87 (List.Perm.refl _) (kc' := 0) (ks' := 0) rfl rfl (rwI (ws' := (bl [mdW G a (fla (scS x, scF x, mxn i37 (filR p_ r_ c_ (scB x)) (scB x), x.2.2.2)) g_28 sl sv r o k t m e w tx cl (hlN hl) tl sp rd])) (List.Perm.refl _) ?_)
              refine V.iload E dX5_fill_90 rfl ?_
              refine V.iaddN E  dX5_fill_92 ?_
              refine V.iload E dX5_fill_93 rfl ?_
              refine V.iastN (f' := nA (fla (scS x, scF x, mxn (i37 + 1) (filR p_ r_ c_ (scB x)) (scB x), x.2.2.2))) (ws' := (bl [mdW G a (fla (scS x, scF x, mxn (i37 + 1) (filR p_ r_ c_ (scB x)) (scB x), x.2.2.2)) g_28 sl sv r o k t m e w tx cl (hlN hl) tl sp rd])) E 1 rfl (by omega) (by decide) dX5_fill_95 (fun j hj => fla_vB (by omega) (fun j => upN_fil (by unfold inR; rw [q_60, q_79]; rfl) j) j) rfl ?_
              refine V.iincN (lv' := [some (.ref (a 0)), some (.int (nI (bN false))), some (.int (nI (p_))), some (.int (nI (r_))), some (.int (nI (c_))), some (.int (nI (sumN i37 (fun j => bN (inR p_ r_ j)) + 1))), some (.int (nI (i37)))]) E dX5_fill_96 rfl (Nat.le_of_ble_eq_true rfl) rfl rfl ?_
              refine V.iincN (lv' := [some (.ref (a 0)), some (.int (nI (bN false))), some (.int (nI (p_))), some (.int (nI (r_))), some (.int (nI (c_))), some (.int (nI (sumN i37 (fun j => bN (inR p_ r_ j)) + 1))), some (.int (nI (i37 + 1)))]) E dX5_fill_99 rfl (Nat.le_of_ble_eq_true rfl) rfl rfl ?_
              refine V.goto (tgt := 37) E dX5_fill_102 (by decide) ?_
              refine V.locN (b := sumN (i37 + 1) (fun j => bN (inR p_ r_ j))) (lv' := [some (.ref (a 0)), some (.int (nI (bN false))), some (.int (nI (p_))), some (.int (nI (r_))), some (.int (nI (c_))), some (.int (nI (sumN (i37 + 1) (fun j => bN (inR p_ r_ j))))), some (.int (nI (i37 + 1)))]) 5 (by rw [sumN]; unfold inR; rw [q_60, q_79]; rfl) rfl rfl ?_
              exact ih_37 (by omega)
      · exact absurd ((okI_n hc (by omega)).symm.trans q_21) (by decide)
    · exact absurd ((okI_n hr_ (by omega)).symm.trans q_11) (by decide)
abbrev rm_c_X5_mark_bad : Room := { frames := 2, cells := 0, slots := 0, locals := 45 }
theorem hd_X5_mark : yX5_mark.cls ≠ "java/lang/invoke/MethodHandle" ∧ yX5_mark.cls ≠ "java/lang/invoke/VarHandle" ∧ (parseMethodDescriptor yX5_mark.desc).map (fun d => d.parameters.length) = some 2 := by decide +kernel
set_option maxRecDepth 100000 in
set_option maxHeartbeats 8000000 in
theorem c_X5_mark_bad (G : VC) (a : Nat → Nat) (hi : Nat → Nat) (sl : Nat → Nat) (sv : Nat → Nat) (r : Nat → Nat) (o : Nat → Nat) (k : Nat → Nat) (t : Nat → Nat) (m : Nat → Nat) (e : Nat → Nat) (w : Nat → Nat) (tx : Nat → Nat) (cl : Nat → Int32) (hl : Nat) (tl : Nat) (sp : Nat) (rd : Nat) (x : SC) (p_ : Int32) (b_ : Nat) (hb : okI 48 p_ = false) : Ctr yX5_mark wsX5_mark rm_c_X5_mark_bad G [.ref (a 0), .int (p_), .int (nI (b_))] (bl [mdW G a (fla x) hi sl sv r o k t m e w tx cl hl tl sp rd]) (fun v9_ u9_ => u9_ = (bl [mdW G a (fla x) hi sl sv r o k t m e w tx cl hl tl sp rd]) ∧ v9_ = some (.int ((-1 : Int32)))) := by
  refine Ctr.int (cc := cX5_mark) (maxL := 4) (ret := (some .int)) (lv0 := [some (.ref (a 0)), some (.int (p_)), some (.int (nI (b_))), none]) (by decide) rfl rfl rfl (Nat.le_of_ble_eq_true rfl) rfl (fun A X E hend => ?_)
  refine V.iload_n E dX5_mark_0 rfl rfl ?_
  refine V.callS E (c_X5_isPixel G p_ ) (bl [mdW G a (fla x) hi sl sv r o k t m e w tx cl hl tl sp rd]) [] gX5_mark_X5_isPixel rfl hd_X5_isPixel ⟨⟨Nat.le_of_ble_eq_true rfl, Nat.le_of_ble_eq_true rfl⟩, Nat.le_of_ble_eq_true rfl, Nat.le_of_ble_eq_true rfl⟩ rfl (Nat.le_of_ble_eq_true rfl) rfl dX5_mark_1 (List.Perm.refl _) (kc' := 0) (ks' := 0) rfl rfl (rwI (ws' := (bl [mdW G a (fla x) hi sl sv r o k t m e w tx cl hl tl sp rd])) (List.Perm.refl _) ?_)
  refine V.if_neB (tgt := 9) E dX5_mark_4 (by decide) (fun q_4 => ?_) (fun q_4 => ?_)
  · exact absurd (hb.symm.trans q_4) (by decide)
  · refine V.iconst (v := (-1 : Int32)) E dX5_mark_7 (by decide) ?_
    exact hend _ _ _ _ dX5_mark_8 (nrI _) ⟨rfl, rfl⟩
abbrev rm_c_X5_mark_same_t : Room := { frames := 2, cells := 0, slots := 0, locals := 45 }
set_option maxRecDepth 100000 in
set_option maxHeartbeats 8000000 in
theorem c_X5_mark_same_t (G : VC) (a : Nat → Nat) (hi : Nat → Nat) (sl : Nat → Nat) (sv : Nat → Nat) (r : Nat → Nat) (o : Nat → Nat) (k : Nat → Nat) (t : Nat → Nat) (m : Nat → Nat) (e : Nat → Nat) (w : Nat → Nat) (tx : Nat → Nat) (cl : Nat → Int32) (hl : Nat) (tl : Nat) (sp : Nat) (rd : Nat) (x : SC) (p_ : Nat) (hx : SInv x) (hp : p_ < 48) (hg : scG x p_ = 1) : Ctr yX5_mark wsX5_mark rm_c_X5_mark_same_t G [.ref (a 0), .int (nI (p_)), .int (nI (bN true))] (bl [mdW G a (fla x) hi sl sv r o k t m e w tx cl hl tl sp rd]) (fun v9_ u9_ => u9_ = (bl [mdW G a (fla x) hi sl sv r o k t m e w tx cl hl tl sp rd]) ∧ v9_ = some (.int ((-5 : Int32)))) := by
  refine Ctr.int (cc := cX5_mark) (maxL := 4) (ret := (some .int)) (lv0 := [some (.ref (a 0)), some (.int (nI (p_))), some (.int (nI (bN true))), none]) (by decide) rfl rfl rfl (Nat.le_of_ble_eq_true rfl) rfl (fun A X E hend => ?_)
  refine V.iload_n E dX5_mark_0 rfl rfl ?_
  refine V.callS E (c_X5_isPixel G (nI (p_)) ) (bl [mdW G a (fla x) hi sl sv r o k t m e w tx cl hl tl sp rd]) [] gX5_mark_X5_isPixel rfl hd_X5_isPixel ⟨⟨Nat.le_of_ble_eq_true rfl, Nat.le_of_ble_eq_true rfl⟩, Nat.le_of_ble_eq_true rfl, Nat.le_of_ble_eq_true rfl⟩ rfl (Nat.le_of_ble_eq_true rfl) rfl dX5_mark_1 (List.Perm.refl _) (kc' := 0) (ks' := 0) rfl rfl (rwI (ws' := (bl [mdW G a (fla x) hi sl sv r o k t m e w tx cl hl tl sp rd])) (List.Perm.refl _) ?_)
  refine V.if_neB (tgt := 9) E dX5_mark_4 (by decide) (fun q_4 => ?_) (fun q_4 => ?_)
  · refine V.iload_n E dX5_mark_9 rfl rfl ?_
    refine V.if_eqB (tgt := 17) E dX5_mark_10 (by decide) (fun q_10 => ?_) (fun q_10 => ?_)
    · exact absurd q_10 (by decide)
    · refine V.iconst (v := nI (1)) E dX5_mark_13 (by decide) ?_
      refine V.goto (tgt := 18) E dX5_mark_14 (by decide) ?_
      refine V.istore_n (lv' := [some (.ref (a 0)), some (.int (nI (p_))), some (.int (nI (bN true))), some (.int (nI (1)))]) E dX5_mark_18 rfl (Nat.le_of_ble_eq_true rfl) rfl rfl ?_
      refine V.aload_n E dX5_mark_19 rfl rfl ?_
      refine V.getf (C := RX5) (T := TX5) (N := 17) (ref := "GlassSpillModel") E 0 5 0 (by decide +kernel) rfl rfl (by decide) (by decide +kernel) rfl rfl dX5_mark_20 ?_
      refine V.bipush (v := nI (103)) E dX5_mark_23 (by decide) ?_
      refine V.iload_n E dX5_mark_25 rfl rfl ?_
      refine V.iaddN E  dX5_mark_26 ?_
      refine V.ialdN (v := nI (scG x p_)) E 1 rfl (by omega) (by decide) (congrArg nI (fla_G _ (by omega))) dX5_mark_27 ?_
      refine V.iload_n E dX5_mark_28 rfl rfl ?_
      refine V.icmp_neN (tgt := 35) E (Nat.lt_of_le_of_lt (hx.g p_ hp) (by decide)) (by decide) dX5_mark_29 (by decide) (fun q_29 => ?_) (fun q_29 => ?_)
      · exact absurd hg q_29
      · refine V.bipush (v := (-5 : Int32)) E dX5_mark_32 (by decide) ?_
        exact hend _ _ _ _ dX5_mark_34 (nrI _) ⟨rfl, rfl⟩
  · exact absurd ((okI_n hp (by omega)).symm.trans q_4) (by decide)
abbrev rm_c_X5_mark_t : Room := { frames := 2, cells := 0, slots := 0, locals := 45 }
set_option maxRecDepth 100000 in
set_option maxHeartbeats 8000000 in
theorem c_X5_mark_t (G : VC) (a : Nat → Nat) (hi : Nat → Nat) (sl : Nat → Nat) (sv : Nat → Nat) (r : Nat → Nat) (o : Nat → Nat) (k : Nat → Nat) (t : Nat → Nat) (m : Nat → Nat) (e : Nat → Nat) (w : Nat → Nat) (tx : Nat → Nat) (cl : Nat → Int32) (hl : Nat) (tl : Nat) (sp : Nat) (rd : Nat) (x : SC) (hh : Nat → SC) (p_ : Nat) (hx : SInv x) (hl6 : hl ≤ 6) (hH : HI hl hh hi) (hp : p_ < 48) (hg : scG x p_ ≠ 1) : Ctr yX5_mark wsX5_mark rm_c_X5_mark_t G [.ref (a 0), .int (nI (p_)), .int (nI (bN true))] (bl [mdW G a (fla x) hi sl sv r o k t m e w tx cl hl tl sp rd]) (fun v9_ u9_ => ∃ gh : Nat → Nat, u9_ = (bl [mdW G a (fla (scS x, scF x, scB x, upN (scG x) p_ 1, scC x)) gh sl sv r o k t m e w tx cl (hlN hl) tl sp rd]) ∧ v9_ = some (.int (nI (sumN 48 (upN (scG x) p_ 1)))) ∧ (HI (hlN hl) (hhN x hl hh) gh)) := by
  refine Ctr.int (cc := cX5_mark) (maxL := 4) (ret := (some .int)) (lv0 := [some (.ref (a 0)), some (.int (nI (p_))), some (.int (nI (bN true))), none]) (by decide) rfl rfl rfl (Nat.le_of_ble_eq_true rfl) rfl (fun A X E hend => ?_)
  refine V.iload_n E dX5_mark_0 rfl rfl ?_
  refine V.callS E (c_X5_isPixel G (nI (p_)) ) (bl [mdW G a (fla x) hi sl sv r o k t m e w tx cl hl tl sp rd]) [] gX5_mark_X5_isPixel rfl hd_X5_isPixel ⟨⟨Nat.le_of_ble_eq_true rfl, Nat.le_of_ble_eq_true rfl⟩, Nat.le_of_ble_eq_true rfl, Nat.le_of_ble_eq_true rfl⟩ rfl (Nat.le_of_ble_eq_true rfl) rfl dX5_mark_1 (List.Perm.refl _) (kc' := 0) (ks' := 0) rfl rfl (rwI (ws' := (bl [mdW G a (fla x) hi sl sv r o k t m e w tx cl hl tl sp rd])) (List.Perm.refl _) ?_)
  refine V.if_neB (tgt := 9) E dX5_mark_4 (by decide) (fun q_4 => ?_) (fun q_4 => ?_)
  · refine V.iload_n E dX5_mark_9 rfl rfl ?_
    refine V.if_eqB (tgt := 17) E dX5_mark_10 (by decide) (fun q_10 => ?_) (fun q_10 => ?_)
    · exact absurd q_10 (by decide)
    · refine V.iconst (v := nI (1)) E dX5_mark_13 (by decide) ?_
      refine V.goto (tgt := 18) E dX5_mark_14 (by decide) ?_
      refine V.istore_n (lv' := [some (.ref (a 0)), some (.int (nI (p_))), some (.int (nI (bN true))), some (.int (nI (1)))]) E dX5_mark_18 rfl (Nat.le_of_ble_eq_true rfl) rfl rfl ?_
      refine V.aload_n E dX5_mark_19 rfl rfl ?_
      refine V.getf (C := RX5) (T := TX5) (N := 17) (ref := "GlassSpillModel") E 0 5 0 (by decide +kernel) rfl rfl (by decide) (by decide +kernel) rfl rfl dX5_mark_20 ?_
      refine V.bipush (v := nI (103)) E dX5_mark_23 (by decide) ?_
      refine V.iload_n E dX5_mark_25 rfl rfl ?_
      refine V.iaddN E  dX5_mark_26 ?_
      refine V.ialdN (v := nI (scG x p_)) E 1 rfl (by omega) (by decide) (congrArg nI (fla_G _ (by omega))) dX5_mark_27 ?_
      refine V.iload_n E dX5_mark_28 rfl rfl ?_
      refine V.icmp_neN (tgt := 35) E (Nat.lt_of_le_of_lt (hx.g p_ hp) (by decide)) (by decide) dX5_mark_29 (by decide) (fun q_29 => ?_) (fun q_29 => ?_)
      · refine V.aload_n E dX5_mark_35 rfl rfl ?_
        refine V.callV (C := RX5) E (c_X5_changes G a hi sl sv r o k t m e w tx cl hl tl sp rd x hh (hl6) (hH)) (bl []) [] 0 5 rfl rfl rfl gX5_mark_X5_changes rfl ⟨rfl, hd_X5_changes⟩ ⟨⟨Nat.le_of_ble_eq_true rfl, Nat.le_of_ble_eq_true rfl⟩, Nat.le_of_ble_eq_true rfl, Nat.le_of_ble_eq_true rfl⟩ rfl (Nat.le_of_ble_eq_true rfl) rfl dX5_mark_36 (pBs (n := 1) [mdW G a (fla x) hi sl sv r o k t m e w tx cl hl tl sp rd] [0] [] rfl (by decide)) (kc' := 0) (ks' := 0) rfl rfl (rxV (ws' := fun (g_36 : Nat → Nat) => (bl [mdW G a (fla x) g_36 sl sv r o k t m e w tx cl (hlN hl) tl sp rd])) (fun g_36 => (pBs (n := 1) [mdW G a (fla x) g_36 sl sv r o k t m e w tx cl (hlN hl) tl sp rd] [0] [] rfl (by decide)).symm) (fun g_36 hf_36 => ?_))
        refine V.aload_n E dX5_mark_39 rfl rfl ?_
        refine V.getf (C := RX5) (T := TX5) (N := 17) (ref := "GlassSpillModel") E 0 5 0 (by decide +kernel) rfl rfl (by decide) (by decide +kernel) rfl rfl dX5_mark_40 ?_
        refine V.bipush (v := nI (103)) E dX5_mark_43 (by decide) ?_
        refine V.iload_n E dX5_mark_45 rfl rfl ?_
        refine V.iaddN E  dX5_mark_46 ?_
        refine V.iload_n E dX5_mark_47 rfl rfl ?_
        refine V.iastN (f' := nA (fla (scS x, scF x, scB x, upN (scG x) p_ 1, scC x))) (ws' := (bl [mdW G a (fla (scS x, scF x, scB x, upN (scG x) p_ 1, scC x)) g_36 sl sv r o k t m e w tx cl (hlN hl) tl sp rd])) E 1 rfl (by omega) (by decide) dX5_mark_48 (fun j _ => fla_uG x hp j) rfl ?_
        refine V.aload_n E dX5_mark_49 rfl rfl ?_
        refine V.callV (C := RX5) E (c_X5_marked G a g_36 sl sv r o k t m e w tx cl (hlN hl) tl sp rd (scS x, scF x, scB x, upN (scG x) p_ 1, scC x) ) (bl []) [] 0 5 rfl rfl rfl gX5_mark_X5_marked rfl ⟨rfl, hd_X5_marked⟩ ⟨⟨Nat.le_of_ble_eq_true rfl, Nat.le_of_ble_eq_true rfl⟩, Nat.le_of_ble_eq_true rfl, Nat.le_of_ble_eq_true rfl⟩ rfl (Nat.le_of_ble_eq_true rfl) rfl dX5_mark_50 (pBs (n := 1) [mdW G a (fla (scS x, scF x, scB x, upN (scG x) p_ 1, scC x)) g_36 sl sv r o k t m e w tx cl (hlN hl) tl sp rd] [0] [] rfl (by decide)) (kc' := 0) (ks' := 0) rfl rfl (rwI (ws' := (bl [mdW G a (fla (scS x, scF x, scB x, upN (scG x) p_ 1, scC x)) g_36 sl sv r o k t m e w tx cl (hlN hl) tl sp rd])) (pBs (n := 1) [mdW G a (fla (scS x, scF x, scB x, upN (scG x) p_ 1, scC x)) g_36 sl sv r o k t m e w tx cl (hlN hl) tl sp rd] [0] [] rfl (by decide)).symm ?_)
        refine V.topN (b := sumN 48 (upN (scG x) p_ 1)) (rfl) ?_
        exact hend _ _ _ _ dX5_mark_53 (nrI _) ⟨g_36, rfl, rfl, hf_36⟩
      · exact absurd q_29 hg
  · exact absurd ((okI_n hp (by omega)).symm.trans q_4) (by decide)
abbrev rm_c_X5_mark_same_f : Room := { frames := 2, cells := 0, slots := 0, locals := 45 }
set_option maxRecDepth 100000 in
set_option maxHeartbeats 8000000 in
theorem c_X5_mark_same_f (G : VC) (a : Nat → Nat) (hi : Nat → Nat) (sl : Nat → Nat) (sv : Nat → Nat) (r : Nat → Nat) (o : Nat → Nat) (k : Nat → Nat) (t : Nat → Nat) (m : Nat → Nat) (e : Nat → Nat) (w : Nat → Nat) (tx : Nat → Nat) (cl : Nat → Int32) (hl : Nat) (tl : Nat) (sp : Nat) (rd : Nat) (x : SC) (p_ : Nat) (hx : SInv x) (hp : p_ < 48) (hg : scG x p_ = 0) : Ctr yX5_mark wsX5_mark rm_c_X5_mark_same_f G [.ref (a 0), .int (nI (p_)), .int (nI (bN false))] (bl [mdW G a (fla x) hi sl sv r o k t m e w tx cl hl tl sp rd]) (fun v9_ u9_ => u9_ = (bl [mdW G a (fla x) hi sl sv r o k t m e w tx cl hl tl sp rd]) ∧ v9_ = some (.int ((-5 : Int32)))) := by
  refine Ctr.int (cc := cX5_mark) (maxL := 4) (ret := (some .int)) (lv0 := [some (.ref (a 0)), some (.int (nI (p_))), some (.int (nI (bN false))), none]) (by decide) rfl rfl rfl (Nat.le_of_ble_eq_true rfl) rfl (fun A X E hend => ?_)
  refine V.iload_n E dX5_mark_0 rfl rfl ?_
  refine V.callS E (c_X5_isPixel G (nI (p_)) ) (bl [mdW G a (fla x) hi sl sv r o k t m e w tx cl hl tl sp rd]) [] gX5_mark_X5_isPixel rfl hd_X5_isPixel ⟨⟨Nat.le_of_ble_eq_true rfl, Nat.le_of_ble_eq_true rfl⟩, Nat.le_of_ble_eq_true rfl, Nat.le_of_ble_eq_true rfl⟩ rfl (Nat.le_of_ble_eq_true rfl) rfl dX5_mark_1 (List.Perm.refl _) (kc' := 0) (ks' := 0) rfl rfl (rwI (ws' := (bl [mdW G a (fla x) hi sl sv r o k t m e w tx cl hl tl sp rd])) (List.Perm.refl _) ?_)
  refine V.if_neB (tgt := 9) E dX5_mark_4 (by decide) (fun q_4 => ?_) (fun q_4 => ?_)
  · refine V.iload_n E dX5_mark_9 rfl rfl ?_
    refine V.if_eqB (tgt := 17) E dX5_mark_10 (by decide) (fun q_10 => ?_) (fun q_10 => ?_)
    · refine V.iconst (v := nI (0)) E dX5_mark_17 (by decide) ?_
      refine V.istore_n (lv' := [some (.ref (a 0)), some (.int (nI (p_))), some (.int (nI (bN false))), some (.int (nI (0)))]) E dX5_mark_18 rfl (Nat.le_of_ble_eq_true rfl) rfl rfl ?_
      refine V.aload_n E dX5_mark_19 rfl rfl ?_
      refine V.getf (C := RX5) (T := TX5) (N := 17) (ref := "GlassSpillModel") E 0 5 0 (by decide +kernel) rfl rfl (by decide) (by decide +kernel) rfl rfl dX5_mark_20 ?_
      refine V.bipush (v := nI (103)) E dX5_mark_23 (by decide) ?_
      refine V.iload_n E dX5_mark_25 rfl rfl ?_
      refine V.iaddN E  dX5_mark_26 ?_
      refine V.ialdN (v := nI (scG x p_)) E 1 rfl (by omega) (by decide) (congrArg nI (fla_G _ (by omega))) dX5_mark_27 ?_
      refine V.iload_n E dX5_mark_28 rfl rfl ?_
      refine V.icmp_neN (tgt := 35) E (Nat.lt_of_le_of_lt (hx.g p_ hp) (by decide)) (by decide) dX5_mark_29 (by decide) (fun q_29 => ?_) (fun q_29 => ?_)
      · exact absurd hg q_29
      · refine V.bipush (v := (-5 : Int32)) E dX5_mark_32 (by decide) ?_
        exact hend _ _ _ _ dX5_mark_34 (nrI _) ⟨rfl, rfl⟩
    · exact absurd q_10 (by decide)
  · exact absurd ((okI_n hp (by omega)).symm.trans q_4) (by decide)
abbrev rm_c_X5_mark_f : Room := { frames := 2, cells := 0, slots := 0, locals := 45 }
set_option maxRecDepth 100000 in
set_option maxHeartbeats 8000000 in
theorem c_X5_mark_f (G : VC) (a : Nat → Nat) (hi : Nat → Nat) (sl : Nat → Nat) (sv : Nat → Nat) (r : Nat → Nat) (o : Nat → Nat) (k : Nat → Nat) (t : Nat → Nat) (m : Nat → Nat) (e : Nat → Nat) (w : Nat → Nat) (tx : Nat → Nat) (cl : Nat → Int32) (hl : Nat) (tl : Nat) (sp : Nat) (rd : Nat) (x : SC) (hh : Nat → SC) (p_ : Nat) (hx : SInv x) (hl6 : hl ≤ 6) (hH : HI hl hh hi) (hp : p_ < 48) (hg : scG x p_ ≠ 0) : Ctr yX5_mark wsX5_mark rm_c_X5_mark_f G [.ref (a 0), .int (nI (p_)), .int (nI (bN false))] (bl [mdW G a (fla x) hi sl sv r o k t m e w tx cl hl tl sp rd]) (fun v9_ u9_ => ∃ gh : Nat → Nat, u9_ = (bl [mdW G a (fla (scS x, scF x, scB x, upN (scG x) p_ 0, scC x)) gh sl sv r o k t m e w tx cl (hlN hl) tl sp rd]) ∧ v9_ = some (.int (nI (sumN 48 (upN (scG x) p_ 0)))) ∧ (HI (hlN hl) (hhN x hl hh) gh)) := by
  refine Ctr.int (cc := cX5_mark) (maxL := 4) (ret := (some .int)) (lv0 := [some (.ref (a 0)), some (.int (nI (p_))), some (.int (nI (bN false))), none]) (by decide) rfl rfl rfl (Nat.le_of_ble_eq_true rfl) rfl (fun A X E hend => ?_)
  refine V.iload_n E dX5_mark_0 rfl rfl ?_
  refine V.callS E (c_X5_isPixel G (nI (p_)) ) (bl [mdW G a (fla x) hi sl sv r o k t m e w tx cl hl tl sp rd]) [] gX5_mark_X5_isPixel rfl hd_X5_isPixel ⟨⟨Nat.le_of_ble_eq_true rfl, Nat.le_of_ble_eq_true rfl⟩, Nat.le_of_ble_eq_true rfl, Nat.le_of_ble_eq_true rfl⟩ rfl (Nat.le_of_ble_eq_true rfl) rfl dX5_mark_1 (List.Perm.refl _) (kc' := 0) (ks' := 0) rfl rfl (rwI (ws' := (bl [mdW G a (fla x) hi sl sv r o k t m e w tx cl hl tl sp rd])) (List.Perm.refl _) ?_)
  refine V.if_neB (tgt := 9) E dX5_mark_4 (by decide) (fun q_4 => ?_) (fun q_4 => ?_)
  · refine V.iload_n E dX5_mark_9 rfl rfl ?_
    refine V.if_eqB (tgt := 17) E dX5_mark_10 (by decide) (fun q_10 => ?_) (fun q_10 => ?_)
    · refine V.iconst (v := nI (0)) E dX5_mark_17 (by decide) ?_
      refine V.istore_n (lv' := [some (.ref (a 0)), some (.int (nI (p_))), some (.int (nI (bN false))), some (.int (nI (0)))]) E dX5_mark_18 rfl (Nat.le_of_ble_eq_true rfl) rfl rfl ?_
      refine V.aload_n E dX5_mark_19 rfl rfl ?_
      refine V.getf (C := RX5) (T := TX5) (N := 17) (ref := "GlassSpillModel") E 0 5 0 (by decide +kernel) rfl rfl (by decide) (by decide +kernel) rfl rfl dX5_mark_20 ?_
      refine V.bipush (v := nI (103)) E dX5_mark_23 (by decide) ?_
      refine V.iload_n E dX5_mark_25 rfl rfl ?_
      refine V.iaddN E  dX5_mark_26 ?_
      refine V.ialdN (v := nI (scG x p_)) E 1 rfl (by omega) (by decide) (congrArg nI (fla_G _ (by omega))) dX5_mark_27 ?_
      refine V.iload_n E dX5_mark_28 rfl rfl ?_
      refine V.icmp_neN (tgt := 35) E (Nat.lt_of_le_of_lt (hx.g p_ hp) (by decide)) (by decide) dX5_mark_29 (by decide) (fun q_29 => ?_) (fun q_29 => ?_)
      · refine V.aload_n E dX5_mark_35 rfl rfl ?_
        refine V.callV (C := RX5) E (c_X5_changes G a hi sl sv r o k t m e w tx cl hl tl sp rd x hh (hl6) (hH)) (bl []) [] 0 5 rfl rfl rfl gX5_mark_X5_changes rfl ⟨rfl, hd_X5_changes⟩ ⟨⟨Nat.le_of_ble_eq_true rfl, Nat.le_of_ble_eq_true rfl⟩, Nat.le_of_ble_eq_true rfl, Nat.le_of_ble_eq_true rfl⟩ rfl (Nat.le_of_ble_eq_true rfl) rfl dX5_mark_36 (pBs (n := 1) [mdW G a (fla x) hi sl sv r o k t m e w tx cl hl tl sp rd] [0] [] rfl (by decide)) (kc' := 0) (ks' := 0) rfl rfl (rxV (ws' := fun (g_36 : Nat → Nat) => (bl [mdW G a (fla x) g_36 sl sv r o k t m e w tx cl (hlN hl) tl sp rd])) (fun g_36 => (pBs (n := 1) [mdW G a (fla x) g_36 sl sv r o k t m e w tx cl (hlN hl) tl sp rd] [0] [] rfl (by decide)).symm) (fun g_36 hf_36 => ?_))
        refine V.aload_n E dX5_mark_39 rfl rfl ?_
        refine V.getf (C := RX5) (T := TX5) (N := 17) (ref := "GlassSpillModel") E 0 5 0 (by decide +kernel) rfl rfl (by decide) (by decide +kernel) rfl rfl dX5_mark_40 ?_
        refine V.bipush (v := nI (103)) E dX5_mark_43 (by decide) ?_
        refine V.iload_n E dX5_mark_45 rfl rfl ?_
        refine V.iaddN E  dX5_mark_46 ?_
        refine V.iload_n E dX5_mark_47 rfl rfl ?_
        refine V.iastN (f' := nA (fla (scS x, scF x, scB x, upN (scG x) p_ 0, scC x))) (ws' := (bl [mdW G a (fla (scS x, scF x, scB x, upN (scG x) p_ 0, scC x)) g_36 sl sv r o k t m e w tx cl (hlN hl) tl sp rd])) E 1 rfl (by omega) (by decide) dX5_mark_48 (fun j _ => fla_uG x hp j) rfl ?_
        refine V.aload_n E dX5_mark_49 rfl rfl ?_
        refine V.callV (C := RX5) E (c_X5_marked G a g_36 sl sv r o k t m e w tx cl (hlN hl) tl sp rd (scS x, scF x, scB x, upN (scG x) p_ 0, scC x) ) (bl []) [] 0 5 rfl rfl rfl gX5_mark_X5_marked rfl ⟨rfl, hd_X5_marked⟩ ⟨⟨Nat.le_of_ble_eq_true rfl, Nat.le_of_ble_eq_true rfl⟩, Nat.le_of_ble_eq_true rfl, Nat.le_of_ble_eq_true rfl⟩ rfl (Nat.le_of_ble_eq_true rfl) rfl dX5_mark_50 (pBs (n := 1) [mdW G a (fla (scS x, scF x, scB x, upN (scG x) p_ 0, scC x)) g_36 sl sv r o k t m e w tx cl (hlN hl) tl sp rd] [0] [] rfl (by decide)) (kc' := 0) (ks' := 0) rfl rfl (rwI (ws' := (bl [mdW G a (fla (scS x, scF x, scB x, upN (scG x) p_ 0, scC x)) g_36 sl sv r o k t m e w tx cl (hlN hl) tl sp rd])) (pBs (n := 1) [mdW G a (fla (scS x, scF x, scB x, upN (scG x) p_ 0, scC x)) g_36 sl sv r o k t m e w tx cl (hlN hl) tl sp rd] [0] [] rfl (by decide)).symm ?_)
        refine V.topN (b := sumN 48 (upN (scG x) p_ 0)) (rfl) ?_
        exact hend _ _ _ _ dX5_mark_53 (nrI _) ⟨g_36, rfl, rfl, hf_36⟩
      · exact absurd q_29 hg
    · exact absurd q_10 (by decide)
  · exact absurd ((okI_n hp (by omega)).symm.trans q_4) (by decide)
