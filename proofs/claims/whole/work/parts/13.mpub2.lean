/-! the reference: public methods that look at what is worked out -/
noncomputable def pxN (x : SC) (p : Nat) : Nat → Nat
  | 0 => scF x p
  | 1 => scB x p
  | 2 => dist (scF x p) (scC x)
  | 3 => rawF x p
  | 4 => opqF x p
  | 5 => kndF x p
  | 6 => splF x p
  | 7 => tknF x p
  | 8 => clnF x p
  | _ => cmpF x p
noncomputable def pxA (x : SC) (p : Nat) (w : Int32) : Int32 := if okI 10 w = true then nI (pxN x p (nN w)) else -2
theorem pxA_k (x : SC) (p : Nat) {k : Nat} (h : k < 10) : nI (pxN x p k) = pxA x p (nI k) := by
  unfold pxA
  rw [if_pos (okI_n h (by omega)), nN_nI (by omega)]
theorem sw10 (k : Int32) : k = nI 0 ∨ k = nI 1 ∨ k = nI 2 ∨ k = nI 3 ∨ k = nI 4 ∨ k = nI 5 ∨ k = nI 6 ∨ k = nI 7 ∨ k = nI 8 ∨ k = nI 9 ∨ (k.toInt < 0 ∨ 9 < k.toInt) := by
  simp only [i_eq, nI_toInt (show 0 < 2 ^ 31 by decide), nI_toInt (show 1 < 2 ^ 31 by decide), nI_toInt (show 2 < 2 ^ 31 by decide), nI_toInt (show 3 < 2 ^ 31 by decide), nI_toInt (show 4 < 2 ^ 31 by decide), nI_toInt (show 5 < 2 ^ 31 by decide), nI_toInt (show 6 < 2 ^ 31 by decide), nI_toInt (show 7 < 2 ^ 31 by decide), nI_toInt (show 8 < 2 ^ 31 by decide), nI_toInt (show 9 < 2 ^ 31 by decide)]
  omega
theorem okI_out {n : Nat} {k : Int32} (h : k.toInt < 0 ∨ (n : Int) ≤ k.toInt) : okI n k = false := by
  simp only [okI, decide_eq_false_iff_not]
  omega
theorem okI_no {n : Nat} {k : Int32} (h : okI n k = false) : k.toInt < 0 ∨ (n : Int) ≤ k.toInt := by
  simp only [okI, decide_eq_false_iff_not] at h
  omega
theorem inL_raw (x : Int32) {b c : Nat} (hb : b < 2 ^ 31) (hc : c < 2 ^ 31) : inL x.toInt64 (lN b) (lN c) = decide ((b : Int) ≤ x.toInt ∧ x.toInt ≤ c) := by
  unfold inL
  rw [decide_eq_decide, l_le, l_le, i_wide, lN_toInt hb, lN_toInt hc]
theorem inL_LN {a b c : Nat} (ha : a < 2 ^ 31) (hb : b < 2 ^ 31) (hc : c < 2 ^ 31) : inL (nI a).toInt64 (lN b) (lN c) = decide (b ≤ a ∧ a ≤ c) := by
  rw [inL_raw _ hb hc, nI_toInt ha, decide_eq_decide]
  omega
noncomputable def cnN (x : SC) (tl hl : Nat) (k : Nat) : Nat := if k < 6 then scS x k else if k = 6 then scC x else if k < 12 then sumN 48 (fun j => bN (decide (kndF x j = k - 7))) else if k < 18 then sumN 48 (ovf x k) else if k = 18 then sumN 48 (scG x) else if k = 19 then tl else hl
theorem cnN_lo (x : SC) (tl hl : Nat) {k : Nat} (h : k ≤ 6) : fla x k = cnN x tl hl k := by
  unfold cnN
  by_cases h6 : k < 6
  · rw [if_pos h6]; exact fla_S x h6
  · rw [if_neg h6, if_pos (by omega), show k = 6 by omega]; rfl
/-- the bits of the places below n where q holds -/
def msk (q : Nat → Bool) : Nat → Int32
  | 0 => nI 0
  | n + 1 => if q n = true then msk q n ||| nI (1 * 2 ^ n) else msk q n
theorem or_0 (x : Int32) : x ||| nI 0 = x := Int32.or_zero
noncomputable def clrN (x : SC) (p : Nat) : Nat := sumN 48 (fun j => bN (decide (kndF (scS x, scF x, scB x, scG x, scF x p) j = 0)))
noncomputable def bst (x : SC) : Nat → Nat × Int32
  | 0 => (0, -1)
  | n + 1 => if nI (clrN x n) ≤ (bst x n).2 then bst x n else (n, nI (clrN x n))
theorem SInv.scr {x : SC} (h : SInv x) {c : Nat} (hc : c < 4096) : SInv (scS x, scF x, scB x, scG x, c) := ⟨h.1, h.2.1, h.2.2.1, h.2.2.2.1, h.2.2.2.2.1, hc⟩
theorem SInv.set {x : SC} (h : SInv x) {k v : Nat} (hv2 : v ≤ hv k) (ho : ordN x k v = true) : SInv (upN (scS x) k v, x.2) := by
  refine ⟨fun j hj => ?_, ?_, h.2.2.1, h.2.2.2.1, h.2.2.2.2.1, h.2.2.2.2.2⟩
  · show upN (scS x) k v j ≤ hv j
    unfold upN
    split
    · rename_i e; rw [e]; exact hv2
    · exact h.1 j hj
  · have ho := of_decide_eq_true ho
    show upN (scS x) k v 0 < upN (scS x) k v 1
    unfold upN
    by_cases h0 : k = 0
    · subst h0
      rw [if_pos rfl] at ho ⊢
      rw [if_neg (by decide)] at ho
      rw [if_neg (by decide)]
      exact ho
    · rw [if_neg h0] at ho
      rw [if_neg (Ne.symm h0)]
      by_cases h1 : k = 1
      · subst h1
        rw [if_pos rfl] at ho ⊢
        exact ho
      · rw [if_neg h1] at ho
        rw [if_neg (Ne.symm h1)]
        exact ho
theorem fla_bk (x : SC) {k v : Nat} (hk : k < 6) (j : Nat) : upd (nA (fla (upN (scS x) k v, x.2))) k (nI (scS x k)) j = nA (fla x) j := by
  have h1 := fla_uS (upN (scS x) k v, x.2) (v := scS x k) hk j
  rw [h1]
  have e : upN (upN (scS x) k v) k (scS x k) = scS x := by
    funext i
    unfold upN
    by_cases h : i = k
    · rw [if_pos h, h]
    · rw [if_neg h, if_neg h]
  show nA (fla (upN (upN (scS x) k v) k (scS x k), x.2)) j = _
  rw [e]
/-- the spill that is left with a share k of v -/
noncomputable def lefN (x : SC) (k v : Nat) : Nat := sumN 48 (fun j => spl (cmpF (upN (scS x) k v, x.2) j) (mainP (scC x)))
noncomputable def bsh (x : SC) (k : Nat) : Nat → Nat × Nat
  | 0 => (0, 0)
  | n + 1 => if n = 0 ∨ lefN x k n < (bsh x k n).2 then (n, lefN x k n) else bsh x k n
theorem lefN_le (x : SC) (k v : Nat) : lefN x k v ≤ 720 := by
  have := sumN_le (n := 48) (f := fun j => spl (cmpF (upN (scS x) k v, x.2) j) (mainP (scC x))) (b := 15) (fun j _ => Nat.le_of_lt_succ (spl_lt _ _))
  unfold lefN
  omega
theorem bsh_le (x : SC) (k : Nat) : ∀ n, (bsh x k n).2 ≤ 720 ∧ (bsh x k n).1 ≤ n
  | 0 => ⟨by show 0 ≤ 720; omega, Nat.le_refl _⟩
  | n + 1 => by
    have h := bsh_le x k n
    rw [bsh]
    split
    · exact ⟨lefN_le x k n, by show n ≤ n + 1; omega⟩
    · exact ⟨h.1, by omega⟩
abbrev rm_c_X5_keep : Room := { frames := 5, cells := 0, slots := 0, locals := 116 }
theorem hd_X5_keep : yX5_keep.cls ≠ "java/lang/invoke/MethodHandle" ∧ yX5_keep.cls ≠ "java/lang/invoke/VarHandle" ∧ (parseMethodDescriptor yX5_keep.desc).map (fun d => d.parameters.length) = some 0 := by decide +kernel
set_option maxRecDepth 100000 in
set_option maxHeartbeats 8000000 in
theorem c_X5_keep (G : VC) (a : Nat → Nat) (hi : Nat → Nat) (sl : Nat → Nat) (sv : Nat → Nat) (r : Nat → Nat) (o : Nat → Nat) (k : Nat → Nat) (t : Nat → Nat) (m : Nat → Nat) (e : Nat → Nat) (w : Nat → Nat) (tx : Nat → Nat) (cl : Nat → Int32) (hl : Nat) (tl : Nat) (sp : Nat) (rd : Nat) (x : SC) (hh : Nat → SC) (hx : SInv x) (hl6 : hl ≤ 6) (hH : HI hl hh hi) : Ctr yX5_keep wsX5_keep rm_c_X5_keep G [.ref (a 0)] (bl [mdW G a (fla x) hi sl sv r o k t m e w tx cl hl tl sp rd]) (fun v9_ u9_ => ∃ gg : (Nat → Nat) × (Nat → Nat), u9_ = (bl [mdW G a (fla (scS x, cmpF x, scB x, zN, scC x)) gg.1 sl sv (rawF x) (opqF x) (kndF x) (tknF x) (cmpF x) gg.2 w tx cl (hlN hl) tl sp rd]) ∧ v9_ = some (.int (nI (sumN 48 (fun j => bN (!decide (scF x j = cmpF x j)))))) ∧ (HI (hlN hl) (hhN x hl hh) gg.1)) := by
  refine Ctr.int (cc := cX5_keep) (maxL := 3) (ret := (some .int)) (lv0 := [some (.ref (a 0)), none, none]) (by decide) rfl rfl rfl (Nat.le_of_ble_eq_true rfl) rfl (fun A X E hend => ?_)
  refine V.aload_n E dX5_keep_0 rfl rfl ?_
  refine V.callV (C := RX5) E (c_X5_changes G a hi sl sv r o k t m e w tx cl hl tl sp rd x hh (hl6) (hH)) (bl []) [] 0 5 rfl rfl rfl gX5_keep_X5_changes rfl ⟨rfl, hd_X5_changes⟩ ⟨⟨Nat.le_of_ble_eq_true rfl, Nat.le_of_ble_eq_true rfl⟩, Nat.le_of_ble_eq_true rfl, Nat.le_of_ble_eq_true rfl⟩ rfl (Nat.le_of_ble_eq_true rfl) rfl dX5_keep_1 (pBs (n := 1) [mdW G a (fla x) hi sl sv r o k t m e w tx cl hl tl sp rd] [0] [] rfl (by decide)) (kc' := 0) (ks' := 0) rfl rfl (rxV (ws' := fun (g_1 : Nat → Nat) => (bl [mdW G a (fla x) g_1 sl sv r o k t m e w tx cl (hlN hl) tl sp rd])) (fun g_1 => (pBs (n := 1) [mdW G a (fla x) g_1 sl sv r o k t m e w tx cl (hlN hl) tl sp rd] [0] [] rfl (by decide)).symm) (fun g_1 hf_1 => ?_))
  refine V.aload_n E dX5_keep_4 rfl rfl ?_
  refine V.callV (C := RX5) E (c_X5_works G a g_1 sl sv r o k t m e w tx cl (hlN hl) tl sp rd x (hx)) (bl []) [] 0 5 rfl rfl rfl gX5_keep_X5_works rfl ⟨rfl, hd_X5_works⟩ ⟨⟨Nat.le_of_ble_eq_true rfl, Nat.le_of_ble_eq_true rfl⟩, Nat.le_of_ble_eq_true rfl, Nat.le_of_ble_eq_true rfl⟩ rfl (Nat.le_of_ble_eq_true rfl) rfl dX5_keep_5 (pBs (n := 1) [mdW G a (fla x) g_1 sl sv r o k t m e w tx cl (hlN hl) tl sp rd] [0] [] rfl (by decide)) (kc' := 0) (ks' := 0) rfl rfl (rxV (ws' := fun (g_5 : Nat → Nat) => (bl [mdW G a (fla x) g_1 sl sv (rawF x) (opqF x) (kndF x) (tknF x) (cmpF x) g_5 w tx cl (hlN hl) tl sp rd])) (fun g_5 => (pBs (n := 1) [mdW G a (fla x) g_1 sl sv (rawF x) (opqF x) (kndF x) (tknF x) (cmpF x) g_5 w tx cl (hlN hl) tl sp rd] [0] [] rfl (by decide)).symm) (fun g_5 hf_5 => ?_))
  refine V.iconst (v := nI (0)) E dX5_keep_8 (by decide) ?_
  refine V.istore_n (lv' := [some (.ref (a 0)), some (.int (nI (0))), none]) E dX5_keep_9 rfl (Nat.le_of_ble_eq_true rfl) rfl rfl ?_
  refine V.iconst (v := nI (0)) E dX5_keep_10 (by decide) ?_
  refine V.istore_n (lv' := [some (.ref (a 0)), some (.int (nI (0))), some (.int (nI (0)))]) E dX5_keep_11 rfl (Nat.le_of_ble_eq_true rfl) rfl rfl ?_
  refine V.locN (b := sumN 0 (fun j => bN (!decide (scF x j = cmpF x j)))) (lv' := [some (.ref (a 0)), some (.int (nI (sumN 0 (fun j => bN (!decide (scF x j = cmpF x j)))))), some (.int (nI (0)))]) 1 (rfl) rfl rfl ?_
  refine V.arr (f' := nA (fla (scS x, mxn 0 (cmpF x) (scF x), scB x, scG x, scC x))) (ws' := (bl [mdW G a (fla (scS x, mxn 0 (cmpF x) (scF x), scB x, scG x, scC x)) g_1 sl sv (rawF x) (opqF x) (kndF x) (tknF x) (cmpF x) g_5 w tx cl (hlN hl) tl sp rd])) 1 rfl (fun j hj => fla_cF (s := scS x) (f := scF x) (b := scB x) (g := scG x) (c := scC x) (fun j _ => (mxn_hi (a := cmpF x) (Nat.zero_le j)).symm) hj) rfl ?_
  refine V.arr (f' := nA (fla (scS x, mxn 0 (cmpF x) (scF x), scB x, mxn 0 zN (scG x), scC x))) (ws' := (bl [mdW G a (fla (scS x, mxn 0 (cmpF x) (scF x), scB x, mxn 0 zN (scG x), scC x)) g_1 sl sv (rawF x) (opqF x) (kndF x) (tknF x) (cmpF x) g_5 w tx cl (hlN hl) tl sp rd])) 1 rfl (fun j hj => fla_cG (fun j _ => (mxn_hi (a := zN) (Nat.zero_le j)).symm) hj) rfl ?_
  refine loopN (P := fun i12 => V G A X rm_c_X5_keep (bl [mdW G a (fla (scS x, mxn i12 (cmpF x) (scF x), scB x, mxn i12 zN (scG x), scC x)) g_1 sl sv (rawF x) (opqF x) (kndF x) (tknF x) (cmpF x) g_5 w tx cl (hlN hl) tl sp rd]) 0 0 12 [some (.ref (a 0)), some (.int (nI (sumN i12 (fun j => bN (!decide (scF x j = cmpF x j)))))), some (.int (nI (i12)))] []) 48 (fun i12 hi_12 ih_12 => ?_) 0 (Nat.zero_le _)
  refine V.iload_n E dX5_keep_12 rfl rfl ?_
  refine V.bipush (v := nI (48)) E dX5_keep_13 (by decide) ?_
  refine V.icmp_geN (tgt := 75) E (by omega) (by omega) dX5_keep_15 (by decide) (fun q_15 => ?_) (fun q_15 => ?_)
  · obtain rfl : i12 = 48 := by omega
    refine V.arr (f' := nA (fla (scS x, cmpF x, scB x, mxn 48 zN (scG x), scC x))) (ws' := (bl [mdW G a (fla (scS x, cmpF x, scB x, mxn 48 zN (scG x), scC x)) g_1 sl sv (rawF x) (opqF x) (kndF x) (tknF x) (cmpF x) g_5 w tx cl (hlN hl) tl sp rd])) 1 rfl (fun j hj => fla_cF (fun j hj2 => mxn_lo hj2) hj) rfl ?_
    refine V.arr (f' := nA (fla (scS x, cmpF x, scB x, zN, scC x))) (ws' := (bl [mdW G a (fla (scS x, cmpF x, scB x, zN, scC x)) g_1 sl sv (rawF x) (opqF x) (kndF x) (tknF x) (cmpF x) g_5 w tx cl (hlN hl) tl sp rd])) 1 rfl (fun j hj => fla_cG (fun j hj2 => mxn_lo hj2) hj) rfl ?_
    refine V.iload_n E dX5_keep_75 rfl rfl ?_
    exact hend _ _ _ _ dX5_keep_76 (nrI _) ⟨(g_1, g_5), rfl, rfl, hf_1⟩
  · refine V.iload_n E dX5_keep_18 rfl rfl ?_
    refine V.aload_n E dX5_keep_19 rfl rfl ?_
    refine V.getf (C := RX5) (T := TX5) (N := 17) (ref := "GlassSpillModel") E 0 5 0 (by decide +kernel) rfl rfl (by decide) (by decide +kernel) rfl rfl dX5_keep_20 ?_
    refine V.bipush (v := nI (7)) E dX5_keep_23 (by decide) ?_
    refine V.iload_n E dX5_keep_25 rfl rfl ?_
    refine V.iaddN E  dX5_keep_26 ?_
    refine V.ialdN (v := nI (scF x i12)) E 1 rfl (by omega) (by decide) ((congrArg nI (fla_F _ (by omega))).trans (congrArg nI (mxn_hi (Nat.le_refl _)))) dX5_keep_27 ?_
    refine V.aload_n E dX5_keep_28 rfl rfl ?_
    refine V.getf (C := RX5) (T := TX5) (N := 17) (ref := "GlassSpillModel") E 0 5 9 (by decide +kernel) rfl rfl (by decide) (by decide +kernel) rfl rfl dX5_keep_29 ?_
    refine V.iload_n E dX5_keep_32 rfl rfl ?_
    refine V.ialdN (v := nI ((cmpF x) i12)) E 9 rfl (by omega) (by decide) (rfl) dX5_keep_33 ?_
    refine V.icmp_neN (tgt := 41) E (Nat.lt_trans (hx.f _ (by omega)) (by decide)) (Nat.lt_trans (cmpF_lt x _) (by decide)) dX5_keep_34 (by decide) (fun q_34 => ?_) (fun q_34 => ?_)
    · refine V.iconst (v := nI (1)) E dX5_keep_41 (by decide) ?_
      refine V.iaddN E  dX5_keep_42 ?_
      refine V.istore_n (lv' := [some (.ref (a 0)), some (.int (nI ((sumN i12 (fun j => bN (!decide (scF x j = cmpF x j)))) + 1))), some (.int (nI (i12)))]) E dX5_keep_43 rfl (Nat.le_of_ble_eq_true rfl) rfl rfl ?_
      refine V.aload_n E dX5_keep_44 rfl rfl ?_
      refine V.getf (C := RX5) (T := TX5) (N := 17) (ref := "GlassSpillModel") E 0 5 0 (by decide +kernel) rfl rfl (by decide) (by decide +kernel) rfl rfl dX5_keep_45 ?_
      refine V.bipush (v := nI (7)) E dX5_keep_48 (by decide) ?_
      refine V.iload_n E dX5_keep_50 rfl rfl ?_
      refine V.iaddN E  dX5_keep_51 ?_
      refine V.aload_n E dX5_keep_52 rfl rfl ?_
      refine V.getf (C := RX5) (T := TX5) (N := 17) (ref := "GlassSpillModel") E 0 5 9 (by decide +kernel) rfl rfl (by decide) (by decide +kernel) rfl rfl dX5_keep_53 ?_
      refine V.iload_n E dX5_keep_56 rfl rfl ?_
      refine V.ialdN (v := nI ((cmpF x) i12)) E 9 rfl (by omega) (by decide) (rfl) dX5_keep_57 ?_
      refine V.iastN (f' := nA (fla (scS x, mxn (i12 + 1) (cmpF x) (scF x), scB x, mxn i12 zN (scG x), scC x))) (ws' := (bl [mdW G a (fla (scS x, mxn (i12 + 1) (cmpF x) (scF x), scB x, mxn i12 zN (scG x), scC x)) g_1 sl sv (rawF x) (opqF x) (kndF x) (tknF x) (cmpF x) g_5 w tx cl (hlN hl) tl sp rd])) E 1 rfl (by omega) (by decide) dX5_keep_58 (fun j _ => fla_vF (by omega) (fun j => upN_m j) j) rfl ?_
      refine V.aload_n E dX5_keep_59 rfl rfl ?_
      refine V.getf (C := RX5) (T := TX5) (N := 17) (ref := "GlassSpillModel") E 0 5 0 (by decide +kernel) rfl rfl (by decide) (by decide +kernel) rfl rfl dX5_keep_60 ?_
      refine V.bipush (v := nI (103)) E dX5_keep_63 (by decide) ?_
      refine V.iload_n E dX5_keep_65 rfl rfl ?_
      refine V.iaddN E  dX5_keep_66 ?_
      refine V.iconst (v := nI (0)) E dX5_keep_67 (by decide) ?_
      refine V.iastN (f' := nA (fla (scS x, mxn (i12 + 1) (cmpF x) (scF x), scB x, mxn (i12 + 1) zN (scG x), scC x))) (ws' := (bl [mdW G a (fla (scS x, mxn (i12 + 1) (cmpF x) (scF x), scB x, mxn (i12 + 1) zN (scG x), scC x)) g_1 sl sv (rawF x) (opqF x) (kndF x) (tknF x) (cmpF x) g_5 w tx cl (hlN hl) tl sp rd])) E 1 rfl (by omega) (by decide) dX5_keep_68 (fun j _ => fla_vG (by omega) (fun j => upN_m (a := zN) j) j) rfl ?_
      refine V.iincN (lv' := [some (.ref (a 0)), some (.int (nI ((sumN i12 (fun j => bN (!decide (scF x j = cmpF x j)))) + 1))), some (.int (nI (i12 + 1)))]) E dX5_keep_69 rfl (Nat.le_of_ble_eq_true rfl) rfl rfl ?_
      refine V.goto (tgt := 12) E dX5_keep_72 (by decide) ?_
      refine V.locN (b := sumN (i12 + 1) (fun j => bN (!decide (scF x j = cmpF x j)))) (lv' := [some (.ref (a 0)), some (.int (nI (sumN (i12 + 1) (fun j => bN (!decide (scF x j = cmpF x j)))))), some (.int (nI (i12 + 1)))]) 1 (by simp [sumN, bN, q_34]) rfl rfl ?_
      exact ih_12 (by omega)
    · refine V.iconst (v := nI (0)) E dX5_keep_37 (by decide) ?_
      refine V.goto (tgt := 42) E dX5_keep_38 (by decide) ?_
      refine V.iaddN E  dX5_keep_42 ?_
      refine V.istore_n (lv' := [some (.ref (a 0)), some (.int (nI ((sumN i12 (fun j => bN (!decide (scF x j = cmpF x j)))) + 0))), some (.int (nI (i12)))]) E dX5_keep_43 rfl (Nat.le_of_ble_eq_true rfl) rfl rfl ?_
      refine V.aload_n E dX5_keep_44 rfl rfl ?_
      refine V.getf (C := RX5) (T := TX5) (N := 17) (ref := "GlassSpillModel") E 0 5 0 (by decide +kernel) rfl rfl (by decide) (by decide +kernel) rfl rfl dX5_keep_45 ?_
      refine V.bipush (v := nI (7)) E dX5_keep_48 (by decide) ?_
      refine V.iload_n E dX5_keep_50 rfl rfl ?_
      refine V.iaddN E  dX5_keep_51 ?_
      refine V.aload_n E dX5_keep_52 rfl rfl ?_
      refine V.getf (C := RX5) (T := TX5) (N := 17) (ref := "GlassSpillModel") E 0 5 9 (by decide +kernel) rfl rfl (by decide) (by decide +kernel) rfl rfl dX5_keep_53 ?_
      refine V.iload_n E dX5_keep_56 rfl rfl ?_
      refine V.ialdN (v := nI ((cmpF x) i12)) E 9 rfl (by omega) (by decide) (rfl) dX5_keep_57 ?_
      refine V.iastN (f' := nA (fla (scS x, mxn (i12 + 1) (cmpF x) (scF x), scB x, mxn i12 zN (scG x), scC x))) (ws' := (bl [mdW G a (fla (scS x, mxn (i12 + 1) (cmpF x) (scF x), scB x, mxn i12 zN (scG x), scC x)) g_1 sl sv (rawF x) (opqF x) (kndF x) (tknF x) (cmpF x) g_5 w tx cl (hlN hl) tl sp rd])) E 1 rfl (by omega) (by decide) dX5_keep_58 (fun j _ => fla_vF (by omega) (fun j => upN_m j) j) rfl ?_
      refine V.aload_n E dX5_keep_59 rfl rfl ?_
      refine V.getf (C := RX5) (T := TX5) (N := 17) (ref := "GlassSpillModel") E 0 5 0 (by decide +kernel) rfl rfl (by decide) (by decide +kernel) rfl rfl dX5_keep_60 ?_
      refine V.bipush (v := nI (103)) E dX5_keep_63 (by decide) ?_
      refine V.iload_n E dX5_keep_65 rfl rfl ?_
      refine V.iaddN E  dX5_keep_66 ?_
      refine V.iconst (v := nI (0)) E dX5_keep_67 (by decide) ?_
      refine V.iastN (f' := nA (fla (scS x, mxn (i12 + 1) (cmpF x) (scF x), scB x, mxn (i12 + 1) zN (scG x), scC x))) (ws' := (bl [mdW G a (fla (scS x, mxn (i12 + 1) (cmpF x) (scF x), scB x, mxn (i12 + 1) zN (scG x), scC x)) g_1 sl sv (rawF x) (opqF x) (kndF x) (tknF x) (cmpF x) g_5 w tx cl (hlN hl) tl sp rd])) E 1 rfl (by omega) (by decide) dX5_keep_68 (fun j _ => fla_vG (by omega) (fun j => upN_m (a := zN) j) j) rfl ?_
      refine V.iincN (lv' := [some (.ref (a 0)), some (.int (nI ((sumN i12 (fun j => bN (!decide (scF x j = cmpF x j)))) + 0))), some (.int (nI (i12 + 1)))]) E dX5_keep_69 rfl (Nat.le_of_ble_eq_true rfl) rfl rfl ?_
      refine V.goto (tgt := 12) E dX5_keep_72 (by decide) ?_
      refine V.locN (b := sumN (i12 + 1) (fun j => bN (!decide (scF x j = cmpF x j)))) (lv' := [some (.ref (a 0)), some (.int (nI (sumN (i12 + 1) (fun j => bN (!decide (scF x j = cmpF x j)))))), some (.int (nI (i12 + 1)))]) 1 (by simp [sumN, bN, q_34]) rfl rfl ?_
      exact ih_12 (by omega)
abbrev rm_c_X5_pixel_bad : Room := { frames := 2, cells := 0, slots := 0, locals := 45 }
theorem hd_X5_pixel : yX5_pixel.cls ≠ "java/lang/invoke/MethodHandle" ∧ yX5_pixel.cls ≠ "java/lang/invoke/VarHandle" ∧ (parseMethodDescriptor yX5_pixel.desc).map (fun d => d.parameters.length) = some 2 := by decide +kernel
set_option maxRecDepth 100000 in
set_option maxHeartbeats 8000000 in
theorem c_X5_pixel_bad (G : VC) (a : Nat → Nat) (hi : Nat → Nat) (sl : Nat → Nat) (sv : Nat → Nat) (r : Nat → Nat) (o : Nat → Nat) (k : Nat → Nat) (t : Nat → Nat) (m : Nat → Nat) (e : Nat → Nat) (w : Nat → Nat) (tx : Nat → Nat) (cl : Nat → Int32) (hl : Nat) (tl : Nat) (sp : Nat) (rd : Nat) (x : SC) (p_ : Int32) (w_ : Int32) (hb : okI 48 p_ = false) : Ctr yX5_pixel wsX5_pixel rm_c_X5_pixel_bad G [.ref (a 0), .int (p_), .int (w_)] (bl [mdW G a (fla x) hi sl sv r o k t m e w tx cl hl tl sp rd]) (fun v9_ u9_ => u9_ = (bl [mdW G a (fla x) hi sl sv r o k t m e w tx cl hl tl sp rd]) ∧ v9_ = some (.int ((-1 : Int32)))) := by
  refine Ctr.int (cc := cX5_pixel) (maxL := 4) (ret := (some .int)) (lv0 := [some (.ref (a 0)), some (.int (p_)), some (.int (w_)), none]) (by decide) rfl rfl rfl (Nat.le_of_ble_eq_true rfl) rfl (fun A X E hend => ?_)
  refine V.iload_n E dX5_pixel_0 rfl rfl ?_
  refine V.callS E (c_X5_isPixel G p_ ) (bl [mdW G a (fla x) hi sl sv r o k t m e w tx cl hl tl sp rd]) [] gX5_pixel_X5_isPixel rfl hd_X5_isPixel ⟨⟨Nat.le_of_ble_eq_true rfl, Nat.le_of_ble_eq_true rfl⟩, Nat.le_of_ble_eq_true rfl, Nat.le_of_ble_eq_true rfl⟩ rfl (Nat.le_of_ble_eq_true rfl) rfl dX5_pixel_1 (List.Perm.refl _) (kc' := 0) (ks' := 0) rfl rfl (rwI (ws' := (bl [mdW G a (fla x) hi sl sv r o k t m e w tx cl hl tl sp rd])) (List.Perm.refl _) ?_)
  refine V.if_neB (tgt := 9) E dX5_pixel_4 (by decide) (fun q_4 => ?_) (fun q_4 => ?_)
  · exact absurd (hb.symm.trans q_4) (by decide)
  · refine V.iconst (v := (-1 : Int32)) E dX5_pixel_7 (by decide) ?_
    exact hend _ _ _ _ dX5_pixel_8 (nrI _) ⟨rfl, rfl⟩
abbrev rm_c_X5_pixel_ok : Room := { frames := 5, cells := 0, slots := 0, locals := 116 }
set_option maxRecDepth 100000 in
set_option maxHeartbeats 8000000 in
theorem c_X5_pixel_ok (G : VC) (a : Nat → Nat) (hi : Nat → Nat) (sl : Nat → Nat) (sv : Nat → Nat) (r : Nat → Nat) (o : Nat → Nat) (k : Nat → Nat) (t : Nat → Nat) (m : Nat → Nat) (e : Nat → Nat) (w : Nat → Nat) (tx : Nat → Nat) (cl : Nat → Int32) (hl : Nat) (tl : Nat) (sp : Nat) (rd : Nat) (x : SC) (p_ : Nat) (w_ : Int32) (hx : SInv x) (hp : p_ < 48) : Ctr yX5_pixel wsX5_pixel rm_c_X5_pixel_ok G [.ref (a 0), .int (nI (p_)), .int (w_)] (bl [mdW G a (fla x) hi sl sv r o k t m e w tx cl hl tl sp rd]) (fun v9_ u9_ => ∃ ge : Nat → Nat, u9_ = (bl [mdW G a (fla x) hi sl sv (rawF x) (opqF x) (kndF x) (tknF x) (cmpF x) ge w tx cl hl tl sp rd]) ∧ v9_ = some (.int (pxA x p_ w_)) ∧ (True)) := by
  refine Ctr.int (cc := cX5_pixel) (maxL := 4) (ret := (some .int)) (lv0 := [some (.ref (a 0)), some (.int (nI (p_))), some (.int (w_)), none]) (by decide) rfl rfl rfl (Nat.le_of_ble_eq_true rfl) rfl (fun A X E hend => ?_)
  refine V.iload_n E dX5_pixel_0 rfl rfl ?_
  refine V.callS E (c_X5_isPixel G (nI (p_)) ) (bl [mdW G a (fla x) hi sl sv r o k t m e w tx cl hl tl sp rd]) [] gX5_pixel_X5_isPixel rfl hd_X5_isPixel ⟨⟨Nat.le_of_ble_eq_true rfl, Nat.le_of_ble_eq_true rfl⟩, Nat.le_of_ble_eq_true rfl, Nat.le_of_ble_eq_true rfl⟩ rfl (Nat.le_of_ble_eq_true rfl) rfl dX5_pixel_1 (List.Perm.refl _) (kc' := 0) (ks' := 0) rfl rfl (rwI (ws' := (bl [mdW G a (fla x) hi sl sv r o k t m e w tx cl hl tl sp rd])) (List.Perm.refl _) ?_)
  refine V.if_neB (tgt := 9) E dX5_pixel_4 (by decide) (fun q_4 => ?_) (fun q_4 => ?_)
  · refine V.aload_n E dX5_pixel_9 rfl rfl ?_
    refine V.callV (C := RX5) E (c_X5_works G a hi sl sv r o k t m e w tx cl hl tl sp rd x (hx)) (bl []) [] 0 5 rfl rfl rfl gX5_pixel_X5_works rfl ⟨rfl, hd_X5_works⟩ ⟨⟨Nat.le_of_ble_eq_true rfl, Nat.le_of_ble_eq_true rfl⟩, Nat.le_of_ble_eq_true rfl, Nat.le_of_ble_eq_true rfl⟩ rfl (Nat.le_of_ble_eq_true rfl) rfl dX5_pixel_10 (pBs (n := 1) [mdW G a (fla x) hi sl sv r o k t m e w tx cl hl tl sp rd] [0] [] rfl (by decide)) (kc' := 0) (ks' := 0) rfl rfl (rxV (ws' := fun (g_10 : Nat → Nat) => (bl [mdW G a (fla x) hi sl sv (rawF x) (opqF x) (kndF x) (tknF x) (cmpF x) g_10 w tx cl hl tl sp rd])) (fun g_10 => (pBs (n := 1) [mdW G a (fla x) hi sl sv (rawF x) (opqF x) (kndF x) (tknF x) (cmpF x) g_10 w tx cl hl tl sp rd] [0] [] rfl (by decide)).symm) (fun g_10 hf_10 => ?_))
    refine V.aload_n E dX5_pixel_13 rfl rfl ?_
    refine V.getf (C := RX5) (T := TX5) (N := 17) (ref := "GlassSpillModel") E 0 5 0 (by decide +kernel) rfl rfl (by decide) (by decide +kernel) rfl rfl dX5_pixel_14 ?_
    refine V.bipush (v := nI (7)) E dX5_pixel_17 (by decide) ?_
    refine V.iload_n E dX5_pixel_19 rfl rfl ?_
    refine V.iaddN E  dX5_pixel_20 ?_
    refine V.ialdN (v := nI (scF x p_)) E 1 rfl (by omega) (by decide) (congrArg nI (fla_F _ (by omega))) dX5_pixel_21 ?_
    refine V.istore_n (lv' := [some (.ref (a 0)), some (.int (nI (p_))), some (.int (w_)), some (.int (nI (scF x p_)))]) E dX5_pixel_22 rfl (Nat.le_of_ble_eq_true rfl) rfl rfl ?_
    refine V.iload_n E dX5_pixel_23 rfl rfl ?_
    rcases sw10 w_ with rfl | rfl | rfl | rfl | rfl | rfl | rfl | rfl | rfl | rfl | h_
    · refine V.tableIn (off := 56) (tgt := 80) E dX5_pixel_24 (by decide) (by decide) (by decide) (by decide) ?_
      refine V.iload_n E dX5_pixel_80 rfl rfl ?_
      refine V.top (y := pxA x p_ (nI 0)) (pxA_k x p_ (k := 0) (by decide)) ?_
      exact hend _ _ _ _ dX5_pixel_81 (nrI _) ⟨g_10, rfl, rfl, trivial⟩
    · refine V.tableIn (off := 58) (tgt := 82) E dX5_pixel_24 (by decide) (by decide) (by decide) (by decide) ?_
      refine V.aload_n E dX5_pixel_82 rfl rfl ?_
      refine V.getf (C := RX5) (T := TX5) (N := 17) (ref := "GlassSpillModel") E 0 5 0 (by decide +kernel) rfl rfl (by decide) (by decide +kernel) rfl rfl dX5_pixel_83 ?_
      refine V.bipush (v := nI (55)) E dX5_pixel_86 (by decide) ?_
      refine V.iload_n E dX5_pixel_88 rfl rfl ?_
      refine V.iaddN E  dX5_pixel_89 ?_
      refine V.ialdN (v := nI (scB x p_)) E 1 rfl (by omega) (by decide) (congrArg nI (fla_B _ (by omega))) dX5_pixel_90 ?_
      refine V.top (y := pxA x p_ (nI 1)) (pxA_k x p_ (k := 1) (by decide)) ?_
      exact hend _ _ _ _ dX5_pixel_91 (nrI _) ⟨g_10, rfl, rfl, trivial⟩
    · refine V.tableIn (off := 68) (tgt := 92) E dX5_pixel_24 (by decide) (by decide) (by decide) (by decide) ?_
      refine V.iload_n E dX5_pixel_92 rfl rfl ?_
      refine V.aload_n E dX5_pixel_93 rfl rfl ?_
      refine V.getf (C := RX5) (T := TX5) (N := 17) (ref := "GlassSpillModel") E 0 5 0 (by decide +kernel) rfl rfl (by decide) (by decide +kernel) rfl rfl dX5_pixel_94 ?_
      refine V.bipush (v := nI (6)) E dX5_pixel_97 (by decide) ?_
      refine V.ialdN (v := nI (scC x)) E 1 rfl (by omega) (by decide) (congrArg nI (fla_C _)) dX5_pixel_99 ?_
      refine V.callS E (c_X5_distanceOf G (scF x p_) (scC x) (hx.f _ hp) (hx.c)) (bl [mdW G a (fla x) hi sl sv (rawF x) (opqF x) (kndF x) (tknF x) (cmpF x) g_10 w tx cl hl tl sp rd]) [] gX5_pixel_X5_distanceOf rfl hd_X5_distanceOf ⟨⟨Nat.le_of_ble_eq_true rfl, Nat.le_of_ble_eq_true rfl⟩, Nat.le_of_ble_eq_true rfl, Nat.le_of_ble_eq_true rfl⟩ rfl (Nat.le_of_ble_eq_true rfl) rfl dX5_pixel_100 (List.Perm.refl _) (kc' := 0) (ks' := 0) rfl rfl (rwI (ws' := (bl [mdW G a (fla x) hi sl sv (rawF x) (opqF x) (kndF x) (tknF x) (cmpF x) g_10 w tx cl hl tl sp rd])) (List.Perm.refl _) ?_)
      refine V.top (y := pxA x p_ (nI 2)) (pxA_k x p_ (k := 2) (by decide)) ?_
      exact hend _ _ _ _ dX5_pixel_103 (nrI _) ⟨g_10, rfl, rfl, trivial⟩
    · refine V.tableIn (off := 80) (tgt := 104) E dX5_pixel_24 (by decide) (by decide) (by decide) (by decide) ?_
      refine V.aload_n E dX5_pixel_104 rfl rfl ?_
      refine V.getf (C := RX5) (T := TX5) (N := 17) (ref := "GlassSpillModel") E 0 5 5 (by decide +kernel) rfl rfl (by decide) (by decide +kernel) rfl rfl dX5_pixel_105 ?_
      refine V.iload_n E dX5_pixel_108 rfl rfl ?_
      refine V.ialdN (v := nI ((rawF x) p_)) E 5 rfl (by omega) (by decide) (rfl) dX5_pixel_109 ?_
      refine V.top (y := pxA x p_ (nI 3)) (pxA_k x p_ (k := 3) (by decide)) ?_
      exact hend _ _ _ _ dX5_pixel_110 (nrI _) ⟨g_10, rfl, rfl, trivial⟩
    · refine V.tableIn (off := 87) (tgt := 111) E dX5_pixel_24 (by decide) (by decide) (by decide) (by decide) ?_
      refine V.aload_n E dX5_pixel_111 rfl rfl ?_
      refine V.getf (C := RX5) (T := TX5) (N := 17) (ref := "GlassSpillModel") E 0 5 6 (by decide +kernel) rfl rfl (by decide) (by decide +kernel) rfl rfl dX5_pixel_112 ?_
      refine V.iload_n E dX5_pixel_115 rfl rfl ?_
      refine V.ialdN (v := nI ((opqF x) p_)) E 6 rfl (by omega) (by decide) (rfl) dX5_pixel_116 ?_
      refine V.top (y := pxA x p_ (nI 4)) (pxA_k x p_ (k := 4) (by decide)) ?_
      exact hend _ _ _ _ dX5_pixel_117 (nrI _) ⟨g_10, rfl, rfl, trivial⟩
    · refine V.tableIn (off := 94) (tgt := 118) E dX5_pixel_24 (by decide) (by decide) (by decide) (by decide) ?_
      refine V.aload_n E dX5_pixel_118 rfl rfl ?_
      refine V.getf (C := RX5) (T := TX5) (N := 17) (ref := "GlassSpillModel") E 0 5 7 (by decide +kernel) rfl rfl (by decide) (by decide +kernel) rfl rfl dX5_pixel_119 ?_
      refine V.iload_n E dX5_pixel_122 rfl rfl ?_
      refine V.ialdN (v := nI ((kndF x) p_)) E 7 rfl (by omega) (by decide) (rfl) dX5_pixel_123 ?_
      refine V.top (y := pxA x p_ (nI 5)) (pxA_k x p_ (k := 5) (by decide)) ?_
      exact hend _ _ _ _ dX5_pixel_124 (nrI _) ⟨g_10, rfl, rfl, trivial⟩
    · refine V.tableIn (off := 101) (tgt := 125) E dX5_pixel_24 (by decide) (by decide) (by decide) (by decide) ?_
      refine V.iload_n E dX5_pixel_125 rfl rfl ?_
      refine V.aload_n E dX5_pixel_126 rfl rfl ?_
      refine V.callV (C := RX5) E (c_X5_mainPart G a hi sl sv (rawF x) (opqF x) (kndF x) (tknF x) (cmpF x) g_10 w tx cl hl tl sp rd x (hx)) (bl []) [.int (nI (scF x p_))] 0 5 rfl rfl rfl gX5_pixel_X5_mainPart rfl ⟨rfl, hd_X5_mainPart⟩ ⟨⟨Nat.le_of_ble_eq_true rfl, Nat.le_of_ble_eq_true rfl⟩, Nat.le_of_ble_eq_true rfl, Nat.le_of_ble_eq_true rfl⟩ rfl (Nat.le_of_ble_eq_true rfl) rfl dX5_pixel_127 (pBs (n := 1) [mdW G a (fla x) hi sl sv (rawF x) (opqF x) (kndF x) (tknF x) (cmpF x) g_10 w tx cl hl tl sp rd] [0] [] rfl (by decide)) (kc' := 0) (ks' := 0) rfl rfl (rwI (ws' := (bl [mdW G a (fla x) hi sl sv (rawF x) (opqF x) (kndF x) (tknF x) (cmpF x) g_10 w tx cl hl tl sp rd])) (pBs (n := 1) [mdW G a (fla x) hi sl sv (rawF x) (opqF x) (kndF x) (tknF x) (cmpF x) g_10 w tx cl hl tl sp rd] [0] [] rfl (by decide)).symm ?_)
      refine V.callS E (c_X5_spillOf G (scF x p_) (mainP (scC x)) (hx.f _ hp) (mainP_lt _)) (bl [mdW G a (fla x) hi sl sv (rawF x) (opqF x) (kndF x) (tknF x) (cmpF x) g_10 w tx cl hl tl sp rd]) [] gX5_pixel_X5_spillOf rfl hd_X5_spillOf ⟨⟨Nat.le_of_ble_eq_true rfl, Nat.le_of_ble_eq_true rfl⟩, Nat.le_of_ble_eq_true rfl, Nat.le_of_ble_eq_true rfl⟩ rfl (Nat.le_of_ble_eq_true rfl) rfl dX5_pixel_130 (List.Perm.refl _) (kc' := 0) (ks' := 0) rfl rfl (rwI (ws' := (bl [mdW G a (fla x) hi sl sv (rawF x) (opqF x) (kndF x) (tknF x) (cmpF x) g_10 w tx cl hl tl sp rd])) (List.Perm.refl _) ?_)
      refine V.top (y := pxA x p_ (nI 6)) (pxA_k x p_ (k := 6) (by decide)) ?_
      exact hend _ _ _ _ dX5_pixel_133 (nrI _) ⟨g_10, rfl, rfl, trivial⟩
    · refine V.tableIn (off := 110) (tgt := 134) E dX5_pixel_24 (by decide) (by decide) (by decide) (by decide) ?_
      refine V.aload_n E dX5_pixel_134 rfl rfl ?_
      refine V.getf (C := RX5) (T := TX5) (N := 17) (ref := "GlassSpillModel") E 0 5 8 (by decide +kernel) rfl rfl (by decide) (by decide +kernel) rfl rfl dX5_pixel_135 ?_
      refine V.iload_n E dX5_pixel_138 rfl rfl ?_
      refine V.ialdN (v := nI ((tknF x) p_)) E 8 rfl (by omega) (by decide) (rfl) dX5_pixel_139 ?_
      refine V.top (y := pxA x p_ (nI 7)) (pxA_k x p_ (k := 7) (by decide)) ?_
      exact hend _ _ _ _ dX5_pixel_140 (nrI _) ⟨g_10, rfl, rfl, trivial⟩
    · refine V.tableIn (off := 117) (tgt := 141) E dX5_pixel_24 (by decide) (by decide) (by decide) (by decide) ?_
      refine V.iload_n E dX5_pixel_141 rfl rfl ?_
      refine V.aload_n E dX5_pixel_142 rfl rfl ?_
      refine V.callV (C := RX5) E (c_X5_mainPart G a hi sl sv (rawF x) (opqF x) (kndF x) (tknF x) (cmpF x) g_10 w tx cl hl tl sp rd x (hx)) (bl []) [.int (nI (scF x p_))] 0 5 rfl rfl rfl gX5_pixel_X5_mainPart rfl ⟨rfl, hd_X5_mainPart⟩ ⟨⟨Nat.le_of_ble_eq_true rfl, Nat.le_of_ble_eq_true rfl⟩, Nat.le_of_ble_eq_true rfl, Nat.le_of_ble_eq_true rfl⟩ rfl (Nat.le_of_ble_eq_true rfl) rfl dX5_pixel_143 (pBs (n := 1) [mdW G a (fla x) hi sl sv (rawF x) (opqF x) (kndF x) (tknF x) (cmpF x) g_10 w tx cl hl tl sp rd] [0] [] rfl (by decide)) (kc' := 0) (ks' := 0) rfl rfl (rwI (ws' := (bl [mdW G a (fla x) hi sl sv (rawF x) (opqF x) (kndF x) (tknF x) (cmpF x) g_10 w tx cl hl tl sp rd])) (pBs (n := 1) [mdW G a (fla x) hi sl sv (rawF x) (opqF x) (kndF x) (tknF x) (cmpF x) g_10 w tx cl hl tl sp rd] [0] [] rfl (by decide)).symm ?_)
      refine V.aload_n E dX5_pixel_146 rfl rfl ?_
      refine V.getf (C := RX5) (T := TX5) (N := 17) (ref := "GlassSpillModel") E 0 5 8 (by decide +kernel) rfl rfl (by decide) (by decide +kernel) rfl rfl dX5_pixel_147 ?_
      refine V.iload_n E dX5_pixel_150 rfl rfl ?_
      refine V.ialdN (v := nI ((tknF x) p_)) E 8 rfl (by omega) (by decide) (rfl) dX5_pixel_151 ?_
      refine V.callS E (c_X5_without G (scF x p_) (mainP (scC x)) ((tknF x) p_) (mainP_lt _) (hx.f _ hp) (tkG_mul hx (kndF x) p_)) (bl [mdW G a (fla x) hi sl sv (rawF x) (opqF x) (kndF x) (tknF x) (cmpF x) g_10 w tx cl hl tl sp rd]) [] gX5_pixel_X5_without rfl hd_X5_without ⟨⟨Nat.le_of_ble_eq_true rfl, Nat.le_of_ble_eq_true rfl⟩, Nat.le_of_ble_eq_true rfl, Nat.le_of_ble_eq_true rfl⟩ rfl (Nat.le_of_ble_eq_true rfl) rfl dX5_pixel_152 (List.Perm.refl _) (kc' := 0) (ks' := 0) rfl rfl (rwI (ws' := (bl [mdW G a (fla x) hi sl sv (rawF x) (opqF x) (kndF x) (tknF x) (cmpF x) g_10 w tx cl hl tl sp rd])) (List.Perm.refl _) ?_)
      refine V.top (y := pxA x p_ (nI 8)) (pxA_k x p_ (k := 8) (by decide)) ?_
      exact hend _ _ _ _ dX5_pixel_155 (nrI _) ⟨g_10, rfl, rfl, trivial⟩
    · refine V.tableIn (off := 132) (tgt := 156) E dX5_pixel_24 (by decide) (by decide) (by decide) (by decide) ?_
      refine V.aload_n E dX5_pixel_156 rfl rfl ?_
      refine V.getf (C := RX5) (T := TX5) (N := 17) (ref := "GlassSpillModel") E 0 5 9 (by decide +kernel) rfl rfl (by decide) (by decide +kernel) rfl rfl dX5_pixel_157 ?_
      refine V.iload_n E dX5_pixel_160 rfl rfl ?_
      refine V.ialdN (v := nI ((cmpF x) p_)) E 9 rfl (by omega) (by decide) (rfl) dX5_pixel_161 ?_
      refine V.top (y := pxA x p_ (nI 9)) (pxA_k x p_ (k := 9) (by decide)) ?_
      exact hend _ _ _ _ dX5_pixel_162 (nrI _) ⟨g_10, rfl, rfl, trivial⟩
    · refine V.tableOut (tgt := 163) E dX5_pixel_24 (h_) (by decide) ?_
      refine V.bipush (v := (-2 : Int32)) E dX5_pixel_163 (by decide) ?_
      refine V.top (y := pxA x p_ w_) (by unfold pxA; rw [okI_out (by omega)]; rfl) ?_
      exact hend _ _ _ _ dX5_pixel_165 (nrI _) ⟨g_10, rfl, rfl, trivial⟩
  · exact absurd ((okI_n hp (by omega)).symm.trans q_4) (by decide)
abbrev rm_c_X5_count_bad : Room := { frames := 5, cells := 0, slots := 0, locals := 116 }
theorem hd_X5_count : yX5_count.cls ≠ "java/lang/invoke/MethodHandle" ∧ yX5_count.cls ≠ "java/lang/invoke/VarHandle" ∧ (parseMethodDescriptor yX5_count.desc).map (fun d => d.parameters.length) = some 1 := by decide +kernel
set_option maxRecDepth 100000 in
set_option maxHeartbeats 8000000 in
theorem c_X5_count_bad (G : VC) (a : Nat → Nat) (hi : Nat → Nat) (sl : Nat → Nat) (sv : Nat → Nat) (r : Nat → Nat) (o : Nat → Nat) (k : Nat → Nat) (t : Nat → Nat) (m : Nat → Nat) (e : Nat → Nat) (w : Nat → Nat) (tx : Nat → Nat) (cl : Nat → Int32) (hl : Nat) (tl : Nat) (sp : Nat) (rd : Nat) (x : SC) (w_ : Int32) (hx : SInv x) (hb : okI 21 w_ = false) : Ctr yX5_count wsX5_count rm_c_X5_count_bad G [.ref (a 0), .int (w_)] (bl [mdW G a (fla x) hi sl sv r o k t m e w tx cl hl tl sp rd]) (fun v9_ u9_ => ∃ ge : Nat → Nat, u9_ = (bl [mdW G a (fla x) hi sl sv (rawF x) (opqF x) (kndF x) (tknF x) (cmpF x) ge w tx cl hl tl sp rd]) ∧ v9_ = some (.int ((-2 : Int32))) ∧ (True)) := by
  refine Ctr.int (cc := cX5_count) (maxL := 2) (ret := (some .int)) (lv0 := [some (.ref (a 0)), some (.int (w_))]) (by decide) rfl rfl rfl (Nat.le_of_ble_eq_true rfl) rfl (fun A X E hend => ?_)
  refine V.aload_n E dX5_count_0 rfl rfl ?_
  refine V.callV (C := RX5) E (c_X5_works G a hi sl sv r o k t m e w tx cl hl tl sp rd x (hx)) (bl []) [] 0 5 rfl rfl rfl gX5_count_X5_works rfl ⟨rfl, hd_X5_works⟩ ⟨⟨Nat.le_of_ble_eq_true rfl, Nat.le_of_ble_eq_true rfl⟩, Nat.le_of_ble_eq_true rfl, Nat.le_of_ble_eq_true rfl⟩ rfl (Nat.le_of_ble_eq_true rfl) rfl dX5_count_1 (pBs (n := 1) [mdW G a (fla x) hi sl sv r o k t m e w tx cl hl tl sp rd] [0] [] rfl (by decide)) (kc' := 0) (ks' := 0) rfl rfl (rxV (ws' := fun (g_1 : Nat → Nat) => (bl [mdW G a (fla x) hi sl sv (rawF x) (opqF x) (kndF x) (tknF x) (cmpF x) g_1 w tx cl hl tl sp rd])) (fun g_1 => (pBs (n := 1) [mdW G a (fla x) hi sl sv (rawF x) (opqF x) (kndF x) (tknF x) (cmpF x) g_1 w tx cl hl tl sp rd] [0] [] rfl (by decide)).symm) (fun g_1 hf_1 => ?_))
  refine V.iload_n E dX5_count_4 rfl rfl ?_
  refine V.i2l E dX5_count_5 rfl ?_
  refine V.lconst (v := 0) E dX5_count_6 (by decide) ?_
  refine V.ldc2 (v := 6) E (by decide +kernel) dX5_count_7 ?_
  refine V.callS E (c_X5_in G w_.toInt64 ((0 : Int64)) ((6 : Int64)) ) (bl [mdW G a (fla x) hi sl sv (rawF x) (opqF x) (kndF x) (tknF x) (cmpF x) g_1 w tx cl hl tl sp rd]) [] gX5_count_X5_in rfl hd_X5_in ⟨⟨Nat.le_of_ble_eq_true rfl, Nat.le_of_ble_eq_true rfl⟩, Nat.le_of_ble_eq_true rfl, Nat.le_of_ble_eq_true rfl⟩ rfl (Nat.le_of_ble_eq_true rfl) rfl dX5_count_10 (List.Perm.refl _) (kc' := 0) (ks' := 0) rfl rfl (rwI (ws' := (bl [mdW G a (fla x) hi sl sv (rawF x) (opqF x) (kndF x) (tknF x) (cmpF x) g_1 w tx cl hl tl sp rd])) (List.Perm.refl _) ?_)
  refine V.topN (b := bN (decide (((0 : Nat) : Int) ≤ w_.toInt ∧ w_.toInt ≤ ((6 : Nat) : Int)))) (congrArg bN (inL_raw _ (b := 0) (c := 6) (by decide) (by decide))) ?_
  refine V.if_eqB (tgt := 23) E dX5_count_13 (by decide) (fun q_13 => ?_) (fun q_13 => ?_)
  · refine V.iload_n E dX5_count_23 rfl rfl ?_
    refine V.i2l E dX5_count_24 rfl ?_
    refine V.ldc2 (v := 7) E (by decide +kernel) dX5_count_25 ?_
    refine V.ldc2 (v := 11) E (by decide +kernel) dX5_count_28 ?_
    refine V.callS E (c_X5_in G w_.toInt64 ((7 : Int64)) ((11 : Int64)) ) (bl [mdW G a (fla x) hi sl sv (rawF x) (opqF x) (kndF x) (tknF x) (cmpF x) g_1 w tx cl hl tl sp rd]) [] gX5_count_X5_in rfl hd_X5_in ⟨⟨Nat.le_of_ble_eq_true rfl, Nat.le_of_ble_eq_true rfl⟩, Nat.le_of_ble_eq_true rfl, Nat.le_of_ble_eq_true rfl⟩ rfl (Nat.le_of_ble_eq_true rfl) rfl dX5_count_31 (List.Perm.refl _) (kc' := 0) (ks' := 0) rfl rfl (rwI (ws' := (bl [mdW G a (fla x) hi sl sv (rawF x) (opqF x) (kndF x) (tknF x) (cmpF x) g_1 w tx cl hl tl sp rd])) (List.Perm.refl _) ?_)
    refine V.topN (b := bN (decide (((7 : Nat) : Int) ≤ w_.toInt ∧ w_.toInt ≤ ((11 : Nat) : Int)))) (congrArg bN (inL_raw _ (b := 7) (c := 11) (by decide) (by decide))) ?_
    refine V.if_eqB (tgt := 46) E dX5_count_34 (by decide) (fun q_34 => ?_) (fun q_34 => ?_)
    · refine V.iload_n E dX5_count_46 rfl rfl ?_
      refine V.i2l E dX5_count_47 rfl ?_
      refine V.ldc2 (v := 12) E (by decide +kernel) dX5_count_48 ?_
      refine V.ldc2 (v := 17) E (by decide +kernel) dX5_count_51 ?_
      refine V.callS E (c_X5_in G w_.toInt64 ((12 : Int64)) ((17 : Int64)) ) (bl [mdW G a (fla x) hi sl sv (rawF x) (opqF x) (kndF x) (tknF x) (cmpF x) g_1 w tx cl hl tl sp rd]) [] gX5_count_X5_in rfl hd_X5_in ⟨⟨Nat.le_of_ble_eq_true rfl, Nat.le_of_ble_eq_true rfl⟩, Nat.le_of_ble_eq_true rfl, Nat.le_of_ble_eq_true rfl⟩ rfl (Nat.le_of_ble_eq_true rfl) rfl dX5_count_54 (List.Perm.refl _) (kc' := 0) (ks' := 0) rfl rfl (rwI (ws' := (bl [mdW G a (fla x) hi sl sv (rawF x) (opqF x) (kndF x) (tknF x) (cmpF x) g_1 w tx cl hl tl sp rd])) (List.Perm.refl _) ?_)
      refine V.topN (b := bN (decide (((12 : Nat) : Int) ≤ w_.toInt ∧ w_.toInt ≤ ((17 : Nat) : Int)))) (congrArg bN (inL_raw _ (b := 12) (c := 17) (by decide) (by decide))) ?_
      refine V.if_eqB (tgt := 66) E dX5_count_57 (by decide) (fun q_57 => ?_) (fun q_57 => ?_)
      · refine V.iload_n E dX5_count_66 rfl rfl ?_
        refine V.bipush (v := nI (18)) E dX5_count_67 (by decide) ?_
        refine V.icmp_ne (tgt := 79) E dX5_count_69 (by decide) (fun q_69 => ?_) (fun q_69 => ?_)
        · refine V.iload_n E dX5_count_79 rfl rfl ?_
          refine V.bipush (v := nI (19)) E dX5_count_80 (by decide) ?_
          refine V.icmp_ne (tgt := 92) E dX5_count_82 (by decide) (fun q_82 => ?_) (fun q_82 => ?_)
          · refine V.iload_n E dX5_count_92 rfl rfl ?_
            refine V.bipush (v := nI (20)) E dX5_count_93 (by decide) ?_
            refine V.icmp_ne (tgt := 105) E dX5_count_95 (by decide) (fun q_95 => ?_) (fun q_95 => ?_)
            · refine V.bipush (v := (-2 : Int32)) E dX5_count_105 (by decide) ?_
              exact hend _ _ _ _ dX5_count_107 (nrI _) ⟨g_1, rfl, rfl, trivial⟩
            · exact absurd (hb.symm.trans (by rw [q_95] <;> decide)) (by decide)
          · exact absurd (hb.symm.trans (by rw [q_82] <;> decide)) (by decide)
        · exact absurd (hb.symm.trans (by rw [q_69] <;> decide)) (by decide)
      · exact absurd (of_decide_eq_true q_57) (by have := okI_no hb; omega)
    · exact absurd (of_decide_eq_true q_34) (by have := okI_no hb; omega)
  · exact absurd (of_decide_eq_true q_13) (by have := okI_no hb; omega)
abbrev rm_c_X5_count_ok : Room := { frames := 5, cells := 0, slots := 0, locals := 116 }
set_option maxRecDepth 100000 in
set_option maxHeartbeats 8000000 in
theorem c_X5_count_ok (G : VC) (a : Nat → Nat) (hi : Nat → Nat) (sl : Nat → Nat) (sv : Nat → Nat) (r : Nat → Nat) (o : Nat → Nat) (k : Nat → Nat) (t : Nat → Nat) (m : Nat → Nat) (e : Nat → Nat) (w : Nat → Nat) (tx : Nat → Nat) (cl : Nat → Int32) (hl : Nat) (tl : Nat) (sp : Nat) (rd : Nat) (x : SC) (w_ : Nat) (hx : SInv x) (hw : w_ < 21) : Ctr yX5_count wsX5_count rm_c_X5_count_ok G [.ref (a 0), .int (nI (w_))] (bl [mdW G a (fla x) hi sl sv r o k t m e w tx cl hl tl sp rd]) (fun v9_ u9_ => ∃ ge : Nat → Nat, u9_ = (bl [mdW G a (fla x) hi sl sv (rawF x) (opqF x) (kndF x) (tknF x) (cmpF x) ge w tx cl hl tl sp rd]) ∧ v9_ = some (.int (nI (cnN x tl hl w_))) ∧ (True)) := by
  refine Ctr.int (cc := cX5_count) (maxL := 2) (ret := (some .int)) (lv0 := [some (.ref (a 0)), some (.int (nI (w_)))]) (by decide) rfl rfl rfl (Nat.le_of_ble_eq_true rfl) rfl (fun A X E hend => ?_)
  refine V.aload_n E dX5_count_0 rfl rfl ?_
  refine V.callV (C := RX5) E (c_X5_works G a hi sl sv r o k t m e w tx cl hl tl sp rd x (hx)) (bl []) [] 0 5 rfl rfl rfl gX5_count_X5_works rfl ⟨rfl, hd_X5_works⟩ ⟨⟨Nat.le_of_ble_eq_true rfl, Nat.le_of_ble_eq_true rfl⟩, Nat.le_of_ble_eq_true rfl, Nat.le_of_ble_eq_true rfl⟩ rfl (Nat.le_of_ble_eq_true rfl) rfl dX5_count_1 (pBs (n := 1) [mdW G a (fla x) hi sl sv r o k t m e w tx cl hl tl sp rd] [0] [] rfl (by decide)) (kc' := 0) (ks' := 0) rfl rfl (rxV (ws' := fun (g_1 : Nat → Nat) => (bl [mdW G a (fla x) hi sl sv (rawF x) (opqF x) (kndF x) (tknF x) (cmpF x) g_1 w tx cl hl tl sp rd])) (fun g_1 => (pBs (n := 1) [mdW G a (fla x) hi sl sv (rawF x) (opqF x) (kndF x) (tknF x) (cmpF x) g_1 w tx cl hl tl sp rd] [0] [] rfl (by decide)).symm) (fun g_1 hf_1 => ?_))
  refine V.iload_n E dX5_count_4 rfl rfl ?_
  refine V.i2l E dX5_count_5 rfl ?_
  refine V.lconst (v := 0) E dX5_count_6 (by decide) ?_
  refine V.ldc2 (v := 6) E (by decide +kernel) dX5_count_7 ?_
  refine V.callS E (c_X5_in G ((nI (w_)).toInt64) ((0 : Int64)) ((6 : Int64)) ) (bl [mdW G a (fla x) hi sl sv (rawF x) (opqF x) (kndF x) (tknF x) (cmpF x) g_1 w tx cl hl tl sp rd]) [] gX5_count_X5_in rfl hd_X5_in ⟨⟨Nat.le_of_ble_eq_true rfl, Nat.le_of_ble_eq_true rfl⟩, Nat.le_of_ble_eq_true rfl, Nat.le_of_ble_eq_true rfl⟩ rfl (Nat.le_of_ble_eq_true rfl) rfl dX5_count_10 (List.Perm.refl _) (kc' := 0) (ks' := 0) rfl rfl (rwI (ws' := (bl [mdW G a (fla x) hi sl sv (rawF x) (opqF x) (kndF x) (tknF x) (cmpF x) g_1 w tx cl hl tl sp rd])) (List.Perm.refl _) ?_)
  refine V.topN (b := bN (decide (0 ≤ w_ ∧ w_ ≤ 6))) (congrArg bN (inL_LN (b := 0) (c := 6) (by omega) (by decide) (by decide))) ?_
  refine V.if_eqB (tgt := 23) E dX5_count_13 (by decide) (fun q_13 => ?_) (fun q_13 => ?_)
  · have hc13_ := of_decide_eq_false q_13
    refine V.iload_n E dX5_count_23 rfl rfl ?_
    refine V.i2l E dX5_count_24 rfl ?_
    refine V.ldc2 (v := 7) E (by decide +kernel) dX5_count_25 ?_
    refine V.ldc2 (v := 11) E (by decide +kernel) dX5_count_28 ?_
    refine V.callS E (c_X5_in G ((nI (w_)).toInt64) ((7 : Int64)) ((11 : Int64)) ) (bl [mdW G a (fla x) hi sl sv (rawF x) (opqF x) (kndF x) (tknF x) (cmpF x) g_1 w tx cl hl tl sp rd]) [] gX5_count_X5_in rfl hd_X5_in ⟨⟨Nat.le_of_ble_eq_true rfl, Nat.le_of_ble_eq_true rfl⟩, Nat.le_of_ble_eq_true rfl, Nat.le_of_ble_eq_true rfl⟩ rfl (Nat.le_of_ble_eq_true rfl) rfl dX5_count_31 (List.Perm.refl _) (kc' := 0) (ks' := 0) rfl rfl (rwI (ws' := (bl [mdW G a (fla x) hi sl sv (rawF x) (opqF x) (kndF x) (tknF x) (cmpF x) g_1 w tx cl hl tl sp rd])) (List.Perm.refl _) ?_)
    refine V.topN (b := bN (decide (7 ≤ w_ ∧ w_ ≤ 11))) (congrArg bN (inL_LN (b := 7) (c := 11) (by omega) (by decide) (by decide))) ?_
    refine V.if_eqB (tgt := 46) E dX5_count_34 (by decide) (fun q_34 => ?_) (fun q_34 => ?_)
    · have hc34_ := of_decide_eq_false q_34
      refine V.iload_n E dX5_count_46 rfl rfl ?_
      refine V.i2l E dX5_count_47 rfl ?_
      refine V.ldc2 (v := 12) E (by decide +kernel) dX5_count_48 ?_
      refine V.ldc2 (v := 17) E (by decide +kernel) dX5_count_51 ?_
      refine V.callS E (c_X5_in G ((nI (w_)).toInt64) ((12 : Int64)) ((17 : Int64)) ) (bl [mdW G a (fla x) hi sl sv (rawF x) (opqF x) (kndF x) (tknF x) (cmpF x) g_1 w tx cl hl tl sp rd]) [] gX5_count_X5_in rfl hd_X5_in ⟨⟨Nat.le_of_ble_eq_true rfl, Nat.le_of_ble_eq_true rfl⟩, Nat.le_of_ble_eq_true rfl, Nat.le_of_ble_eq_true rfl⟩ rfl (Nat.le_of_ble_eq_true rfl) rfl dX5_count_54 (List.Perm.refl _) (kc' := 0) (ks' := 0) rfl rfl (rwI (ws' := (bl [mdW G a (fla x) hi sl sv (rawF x) (opqF x) (kndF x) (tknF x) (cmpF x) g_1 w tx cl hl tl sp rd])) (List.Perm.refl _) ?_)
      refine V.topN (b := bN (decide (12 ≤ w_ ∧ w_ ≤ 17))) (congrArg bN (inL_LN (b := 12) (c := 17) (by omega) (by decide) (by decide))) ?_
      refine V.if_eqB (tgt := 66) E dX5_count_57 (by decide) (fun q_57 => ?_) (fun q_57 => ?_)
      · have hc57_ := of_decide_eq_false q_57
        refine V.iload_n E dX5_count_66 rfl rfl ?_
        refine V.bipush (v := nI (18)) E dX5_count_67 (by decide) ?_
        refine V.icmp_neN (tgt := 79) E (by omega) (by omega) dX5_count_69 (by decide) (fun q_69 => ?_) (fun q_69 => ?_)
        · refine V.iload_n E dX5_count_79 rfl rfl ?_
          refine V.bipush (v := nI (19)) E dX5_count_80 (by decide) ?_
          refine V.icmp_neN (tgt := 92) E (by omega) (by omega) dX5_count_82 (by decide) (fun q_82 => ?_) (fun q_82 => ?_)
          · refine V.iload_n E dX5_count_92 rfl rfl ?_
            refine V.bipush (v := nI (20)) E dX5_count_93 (by decide) ?_
            refine V.icmp_neN (tgt := 105) E (by omega) (by omega) dX5_count_95 (by decide) (fun q_95 => ?_) (fun q_95 => ?_)
            · refine V.bipush (v := (-2 : Int32)) E dX5_count_105 (by decide) ?_
              refine V.top (y := nI (cnN x tl hl w_)) (by unfold cnN; (repeat' split) <;> first | rfl | omega) ?_
              exact hend _ _ _ _ dX5_count_107 (nrI _) ⟨g_1, rfl, rfl, trivial⟩
            · refine V.aload_n E dX5_count_98 rfl rfl ?_
              refine V.getf (C := RX5) (T := TX5) (N := 17) (ref := "GlassSpillModel") E 0 5 2 (by decide +kernel) rfl rfl (by decide) (by decide +kernel) rfl rfl dX5_count_99 ?_
              refine V.goto (tgt := 107) E dX5_count_102 (by decide) ?_
              refine V.topN (b := cnN x tl hl w_) (by unfold cnN; (repeat' split) <;> first | rfl | omega) ?_
              exact hend _ _ _ _ dX5_count_107 (nrI _) ⟨g_1, rfl, rfl, trivial⟩
          · refine V.aload_n E dX5_count_85 rfl rfl ?_
            refine V.getf (C := RX5) (T := TX5) (N := 17) (ref := "GlassSpillModel") E 0 5 13 (by decide +kernel) rfl rfl (by decide) (by decide +kernel) rfl rfl dX5_count_86 ?_
            refine V.goto (tgt := 107) E dX5_count_89 (by decide) ?_
            refine V.topN (b := cnN x tl hl w_) (by unfold cnN; (repeat' split) <;> first | rfl | omega) ?_
            exact hend _ _ _ _ dX5_count_107 (nrI _) ⟨g_1, rfl, rfl, trivial⟩
        · refine V.aload_n E dX5_count_72 rfl rfl ?_
          refine V.callV (C := RX5) E (c_X5_marked G a hi sl sv (rawF x) (opqF x) (kndF x) (tknF x) (cmpF x) g_1 w tx cl hl tl sp rd x ) (bl []) [] 0 5 rfl rfl rfl gX5_count_X5_marked rfl ⟨rfl, hd_X5_marked⟩ ⟨⟨Nat.le_of_ble_eq_true rfl, Nat.le_of_ble_eq_true rfl⟩, Nat.le_of_ble_eq_true rfl, Nat.le_of_ble_eq_true rfl⟩ rfl (Nat.le_of_ble_eq_true rfl) rfl dX5_count_73 (pBs (n := 1) [mdW G a (fla x) hi sl sv (rawF x) (opqF x) (kndF x) (tknF x) (cmpF x) g_1 w tx cl hl tl sp rd] [0] [] rfl (by decide)) (kc' := 0) (ks' := 0) rfl rfl (rwI (ws' := (bl [mdW G a (fla x) hi sl sv (rawF x) (opqF x) (kndF x) (tknF x) (cmpF x) g_1 w tx cl hl tl sp rd])) (pBs (n := 1) [mdW G a (fla x) hi sl sv (rawF x) (opqF x) (kndF x) (tknF x) (cmpF x) g_1 w tx cl hl tl sp rd] [0] [] rfl (by decide)).symm ?_)
          refine V.goto (tgt := 107) E dX5_count_76 (by decide) ?_
          refine V.topN (b := cnN x tl hl w_) (by unfold cnN; (repeat' split) <;> first | rfl | omega) ?_
          exact hend _ _ _ _ dX5_count_107 (nrI _) ⟨g_1, rfl, rfl, trivial⟩
      · have hc57_ := of_decide_eq_true q_57
        refine V.aload_n E dX5_count_60 rfl rfl ?_
        refine V.iload_n E dX5_count_61 rfl rfl ?_
        refine V.callV (C := RX5) E (c_X5_over G a hi sl sv g_1 w tx cl hl tl sp rd x w_ (hx) (hc57_)) (bl []) [] 0 5 rfl rfl rfl gX5_count_X5_over rfl ⟨rfl, hd_X5_over⟩ ⟨⟨Nat.le_of_ble_eq_true rfl, Nat.le_of_ble_eq_true rfl⟩, Nat.le_of_ble_eq_true rfl, Nat.le_of_ble_eq_true rfl⟩ rfl (Nat.le_of_ble_eq_true rfl) rfl dX5_count_62 (pBs (n := 1) [mdW G a (fla x) hi sl sv (rawF x) (opqF x) (kndF x) (tknF x) (cmpF x) g_1 w tx cl hl tl sp rd] [0] [] rfl (by decide)) (kc' := 0) (ks' := 0) rfl rfl (rwI (ws' := (bl [mdW G a (fla x) hi sl sv (rawF x) (opqF x) (kndF x) (tknF x) (cmpF x) g_1 w tx cl hl tl sp rd])) (pBs (n := 1) [mdW G a (fla x) hi sl sv (rawF x) (opqF x) (kndF x) (tknF x) (cmpF x) g_1 w tx cl hl tl sp rd] [0] [] rfl (by decide)).symm ?_)
        refine V.topN (b := cnN x tl hl w_) (by unfold cnN; (repeat' split) <;> first | rfl | omega) ?_
        exact hend _ _ _ _ dX5_count_65 (nrI _) ⟨g_1, rfl, rfl, trivial⟩
    · have hc34_ := of_decide_eq_true q_34
      refine V.aload_n E dX5_count_37 rfl rfl ?_
      refine V.iload_n E dX5_count_38 rfl rfl ?_
      refine V.bipush (v := nI (7)) E dX5_count_39 (by decide) ?_
      refine V.isubN E (by omega) dX5_count_41 ?_
      refine V.callV (C := RX5) E (c_X5_ofKind G a (fla x) hi sl sv (rawF x) (opqF x) (kndF x) (tknF x) (cmpF x) g_1 w tx cl hl tl sp rd (w_ - 7) (fun j _ => kndF_le x j) (by omega)) (bl []) [] 0 5 rfl rfl rfl gX5_count_X5_ofKind rfl ⟨rfl, hd_X5_ofKind⟩ ⟨⟨Nat.le_of_ble_eq_true rfl, Nat.le_of_ble_eq_true rfl⟩, Nat.le_of_ble_eq_true rfl, Nat.le_of_ble_eq_true rfl⟩ rfl (Nat.le_of_ble_eq_true rfl) rfl dX5_count_42 (pBs (n := 1) [mdW G a (fla x) hi sl sv (rawF x) (opqF x) (kndF x) (tknF x) (cmpF x) g_1 w tx cl hl tl sp rd] [0] [] rfl (by decide)) (kc' := 0) (ks' := 0) rfl rfl (rwI (ws' := (bl [mdW G a (fla x) hi sl sv (rawF x) (opqF x) (kndF x) (tknF x) (cmpF x) g_1 w tx cl hl tl sp rd])) (pBs (n := 1) [mdW G a (fla x) hi sl sv (rawF x) (opqF x) (kndF x) (tknF x) (cmpF x) g_1 w tx cl hl tl sp rd] [0] [] rfl (by decide)).symm ?_)
      refine V.topN (b := cnN x tl hl w_) (by unfold cnN; (repeat' split) <;> first | rfl | omega) ?_
      exact hend _ _ _ _ dX5_count_45 (nrI _) ⟨g_1, rfl, rfl, trivial⟩
  · have hc13_ := of_decide_eq_true q_13
    refine V.aload_n E dX5_count_16 rfl rfl ?_
    refine V.getf (C := RX5) (T := TX5) (N := 17) (ref := "GlassSpillModel") E 0 5 0 (by decide +kernel) rfl rfl (by decide) (by decide +kernel) rfl rfl dX5_count_17 ?_
    refine V.iload_n E dX5_count_20 rfl rfl ?_
    refine V.ialdN (v := nI (cnN x tl hl w_)) E 1 rfl (by omega) (by decide) (congrArg nI (cnN_lo x tl hl hc13_.2)) dX5_count_21 ?_
    exact hend _ _ _ _ dX5_count_22 (nrI _) ⟨g_1, rfl, rfl, trivial⟩
abbrev rm_c_X5_row_bad : Room := { frames := 1, cells := 0, slots := 0, locals := 25 }
theorem hd_X5_row : yX5_row.cls ≠ "java/lang/invoke/MethodHandle" ∧ yX5_row.cls ≠ "java/lang/invoke/VarHandle" ∧ (parseMethodDescriptor yX5_row.desc).map (fun d => d.parameters.length) = some 2 := by decide +kernel
set_option maxRecDepth 100000 in
set_option maxHeartbeats 8000000 in
theorem c_X5_row_bad (G : VC) (a : Nat → Nat) (hi : Nat → Nat) (sl : Nat → Nat) (sv : Nat → Nat) (r : Nat → Nat) (o : Nat → Nat) (k : Nat → Nat) (t : Nat → Nat) (m : Nat → Nat) (e : Nat → Nat) (w : Nat → Nat) (tx : Nat → Nat) (cl : Nat → Int32) (hl : Nat) (tl : Nat) (sp : Nat) (rd : Nat) (x : SC) (r_ : Int32) (k_ : Int32) (hb : okI 6 r_ = false) : Ctr yX5_row wsX5_row rm_c_X5_row_bad G [.ref (a 0), .int (r_), .int (k_)] (bl [mdW G a (fla x) hi sl sv r o k t m e w tx cl hl tl sp rd]) (fun v9_ u9_ => u9_ = (bl [mdW G a (fla x) hi sl sv r o k t m e w tx cl hl tl sp rd]) ∧ v9_ = some (.int ((-1 : Int32)))) := by
  refine Ctr.int (cc := cX5_row) (maxL := 5) (ret := (some .int)) (lv0 := [some (.ref (a 0)), some (.int (r_)), some (.int (k_)), none, none]) (by decide) rfl rfl rfl (Nat.le_of_ble_eq_true rfl) rfl (fun A X E hend => ?_)
  refine V.iload_n E dX5_row_0 rfl rfl ?_
  refine V.i2l E dX5_row_1 rfl ?_
  refine V.lconst (v := 0) E dX5_row_2 (by decide) ?_
  refine V.ldc2 (v := 5) E (by decide +kernel) dX5_row_3 ?_
  refine V.callS E (c_X5_in G r_.toInt64 ((0 : Int64)) ((5 : Int64)) ) (bl [mdW G a (fla x) hi sl sv r o k t m e w tx cl hl tl sp rd]) [] gX5_row_X5_in rfl hd_X5_in ⟨⟨Nat.le_of_ble_eq_true rfl, Nat.le_of_ble_eq_true rfl⟩, Nat.le_of_ble_eq_true rfl, Nat.le_of_ble_eq_true rfl⟩ rfl (Nat.le_of_ble_eq_true rfl) rfl dX5_row_6 (List.Perm.refl _) (kc' := 0) (ks' := 0) rfl rfl (rwI (ws' := (bl [mdW G a (fla x) hi sl sv r o k t m e w tx cl hl tl sp rd])) (List.Perm.refl _) ?_)
  refine V.topN (b := bN (okI 6 r_)) (congrArg bN (inL_ok _ (n := 5) (by decide))) ?_
  refine V.if_neB (tgt := 14) E dX5_row_9 (by decide) (fun q_9 => ?_) (fun q_9 => ?_)
  · exact absurd (hb.symm.trans q_9) (by decide)
  · refine V.iconst (v := (-1 : Int32)) E dX5_row_12 (by decide) ?_
    exact hend _ _ _ _ dX5_row_13 (nrI _) ⟨rfl, rfl⟩
abbrev rm_c_X5_row_bk : Room := { frames := 1, cells := 0, slots := 0, locals := 25 }
set_option maxRecDepth 100000 in
set_option maxHeartbeats 8000000 in
theorem c_X5_row_bk (G : VC) (a : Nat → Nat) (hi : Nat → Nat) (sl : Nat → Nat) (sv : Nat → Nat) (r : Nat → Nat) (o : Nat → Nat) (k : Nat → Nat) (t : Nat → Nat) (m : Nat → Nat) (e : Nat → Nat) (w : Nat → Nat) (tx : Nat → Nat) (cl : Nat → Int32) (hl : Nat) (tl : Nat) (sp : Nat) (rd : Nat) (x : SC) (r_ : Nat) (k_ : Int32) (hp : r_ < 6) (hb : okI 5 k_ = false) : Ctr yX5_row wsX5_row rm_c_X5_row_bk G [.ref (a 0), .int (nI (r_)), .int (k_)] (bl [mdW G a (fla x) hi sl sv r o k t m e w tx cl hl tl sp rd]) (fun v9_ u9_ => u9_ = (bl [mdW G a (fla x) hi sl sv r o k t m e w tx cl hl tl sp rd]) ∧ v9_ = some (.int ((-2 : Int32)))) := by
  refine Ctr.int (cc := cX5_row) (maxL := 5) (ret := (some .int)) (lv0 := [some (.ref (a 0)), some (.int (nI (r_))), some (.int (k_)), none, none]) (by decide) rfl rfl rfl (Nat.le_of_ble_eq_true rfl) rfl (fun A X E hend => ?_)
  refine V.iload_n E dX5_row_0 rfl rfl ?_
  refine V.i2l E dX5_row_1 rfl ?_
  refine V.lconst (v := 0) E dX5_row_2 (by decide) ?_
  refine V.ldc2 (v := 5) E (by decide +kernel) dX5_row_3 ?_
  refine V.callS E (c_X5_in G ((nI (r_)).toInt64) ((0 : Int64)) ((5 : Int64)) ) (bl [mdW G a (fla x) hi sl sv r o k t m e w tx cl hl tl sp rd]) [] gX5_row_X5_in rfl hd_X5_in ⟨⟨Nat.le_of_ble_eq_true rfl, Nat.le_of_ble_eq_true rfl⟩, Nat.le_of_ble_eq_true rfl, Nat.le_of_ble_eq_true rfl⟩ rfl (Nat.le_of_ble_eq_true rfl) rfl dX5_row_6 (List.Perm.refl _) (kc' := 0) (ks' := 0) rfl rfl (rwI (ws' := (bl [mdW G a (fla x) hi sl sv r o k t m e w tx cl hl tl sp rd])) (List.Perm.refl _) ?_)
  refine V.topN (b := bN (okI 6 (nI r_))) (congrArg bN (inL_ok _ (n := 5) (by decide))) ?_
  refine V.if_neB (tgt := 14) E dX5_row_9 (by decide) (fun q_9 => ?_) (fun q_9 => ?_)
  · refine V.iload_n E dX5_row_14 rfl rfl ?_
    refine V.i2l E dX5_row_15 rfl ?_
    refine V.lconst (v := 0) E dX5_row_16 (by decide) ?_
    refine V.ldc2 (v := 4) E (by decide +kernel) dX5_row_17 ?_
    refine V.callS E (c_X5_in G k_.toInt64 ((0 : Int64)) ((4 : Int64)) ) (bl [mdW G a (fla x) hi sl sv r o k t m e w tx cl hl tl sp rd]) [] gX5_row_X5_in rfl hd_X5_in ⟨⟨Nat.le_of_ble_eq_true rfl, Nat.le_of_ble_eq_true rfl⟩, Nat.le_of_ble_eq_true rfl, Nat.le_of_ble_eq_true rfl⟩ rfl (Nat.le_of_ble_eq_true rfl) rfl dX5_row_20 (List.Perm.refl _) (kc' := 0) (ks' := 0) rfl rfl (rwI (ws' := (bl [mdW G a (fla x) hi sl sv r o k t m e w tx cl hl tl sp rd])) (List.Perm.refl _) ?_)
    refine V.topN (b := bN (okI 5 k_)) (congrArg bN (inL_ok _ (n := 4) (by decide))) ?_
    refine V.if_neB (tgt := 29) E dX5_row_23 (by decide) (fun q_23 => ?_) (fun q_23 => ?_)
    · exact absurd (hb.symm.trans q_23) (by decide)
    · refine V.bipush (v := (-2 : Int32)) E dX5_row_26 (by decide) ?_
      exact hend _ _ _ _ dX5_row_28 (nrI _) ⟨rfl, rfl⟩
  · exact absurd ((okI_n hp (by omega)).symm.trans q_9) (by decide)
abbrev rm_c_X5_row_ok : Room := { frames := 5, cells := 0, slots := 0, locals := 116 }
set_option maxRecDepth 100000 in
set_option maxHeartbeats 8000000 in
theorem c_X5_row_ok (G : VC) (a : Nat → Nat) (hi : Nat → Nat) (sl : Nat → Nat) (sv : Nat → Nat) (r : Nat → Nat) (o : Nat → Nat) (k : Nat → Nat) (t : Nat → Nat) (m : Nat → Nat) (e : Nat → Nat) (w : Nat → Nat) (tx : Nat → Nat) (cl : Nat → Int32) (hl : Nat) (tl : Nat) (sp : Nat) (rd : Nat) (x : SC) (r_ : Nat) (k_ : Nat) (hx : SInv x) (hp : r_ < 6) (hk : k_ < 5) : Ctr yX5_row wsX5_row rm_c_X5_row_ok G [.ref (a 0), .int (nI (r_)), .int (nI (k_))] (bl [mdW G a (fla x) hi sl sv r o k t m e w tx cl hl tl sp rd]) (fun v9_ u9_ => ∃ ge : Nat → Nat, u9_ = (bl [mdW G a (fla x) hi sl sv (rawF x) (opqF x) (kndF x) (tknF x) (cmpF x) ge w tx cl hl tl sp rd]) ∧ v9_ = some (.int (msk (fun j => decide (kndF x (8 * r_ + j) = k_)) 8)) ∧ (True)) := by
  refine Ctr.int (cc := cX5_row) (maxL := 5) (ret := (some .int)) (lv0 := [some (.ref (a 0)), some (.int (nI (r_))), some (.int (nI (k_))), none, none]) (by decide) rfl rfl rfl (Nat.le_of_ble_eq_true rfl) rfl (fun A X E hend => ?_)
  refine V.iload_n E dX5_row_0 rfl rfl ?_
  refine V.i2l E dX5_row_1 rfl ?_
  refine V.lconst (v := 0) E dX5_row_2 (by decide) ?_
  refine V.ldc2 (v := 5) E (by decide +kernel) dX5_row_3 ?_
  refine V.callS E (c_X5_in G ((nI (r_)).toInt64) ((0 : Int64)) ((5 : Int64)) ) (bl [mdW G a (fla x) hi sl sv r o k t m e w tx cl hl tl sp rd]) [] gX5_row_X5_in rfl hd_X5_in ⟨⟨Nat.le_of_ble_eq_true rfl, Nat.le_of_ble_eq_true rfl⟩, Nat.le_of_ble_eq_true rfl, Nat.le_of_ble_eq_true rfl⟩ rfl (Nat.le_of_ble_eq_true rfl) rfl dX5_row_6 (List.Perm.refl _) (kc' := 0) (ks' := 0) rfl rfl (rwI (ws' := (bl [mdW G a (fla x) hi sl sv r o k t m e w tx cl hl tl sp rd])) (List.Perm.refl _) ?_)
  refine V.topN (b := bN (okI 6 (nI r_))) (congrArg bN (inL_ok _ (n := 5) (by decide))) ?_
  refine V.if_neB (tgt := 14) E dX5_row_9 (by decide) (fun q_9 => ?_) (fun q_9 => ?_)
  · refine V.iload_n E dX5_row_14 rfl rfl ?_
    refine V.i2l E dX5_row_15 rfl ?_
    refine V.lconst (v := 0) E dX5_row_16 (by decide) ?_
    refine V.ldc2 (v := 4) E (by decide +kernel) dX5_row_17 ?_
    refine V.callS E (c_X5_in G ((nI (k_)).toInt64) ((0 : Int64)) ((4 : Int64)) ) (bl [mdW G a (fla x) hi sl sv r o k t m e w tx cl hl tl sp rd]) [] gX5_row_X5_in rfl hd_X5_in ⟨⟨Nat.le_of_ble_eq_true rfl, Nat.le_of_ble_eq_true rfl⟩, Nat.le_of_ble_eq_true rfl, Nat.le_of_ble_eq_true rfl⟩ rfl (Nat.le_of_ble_eq_true rfl) rfl dX5_row_20 (List.Perm.refl _) (kc' := 0) (ks' := 0) rfl rfl (rwI (ws' := (bl [mdW G a (fla x) hi sl sv r o k t m e w tx cl hl tl sp rd])) (List.Perm.refl _) ?_)
    refine V.topN (b := bN (okI 5 (nI k_))) (congrArg bN (inL_ok _ (n := 4) (by decide))) ?_
    refine V.if_neB (tgt := 29) E dX5_row_23 (by decide) (fun q_23 => ?_) (fun q_23 => ?_)
    · refine V.aload_n E dX5_row_29 rfl rfl ?_
      refine V.callV (C := RX5) E (c_X5_works G a hi sl sv r o k t m e w tx cl hl tl sp rd x (hx)) (bl []) [] 0 5 rfl rfl rfl gX5_row_X5_works rfl ⟨rfl, hd_X5_works⟩ ⟨⟨Nat.le_of_ble_eq_true rfl, Nat.le_of_ble_eq_true rfl⟩, Nat.le_of_ble_eq_true rfl, Nat.le_of_ble_eq_true rfl⟩ rfl (Nat.le_of_ble_eq_true rfl) rfl dX5_row_30 (pBs (n := 1) [mdW G a (fla x) hi sl sv r o k t m e w tx cl hl tl sp rd] [0] [] rfl (by decide)) (kc' := 0) (ks' := 0) rfl rfl (rxV (ws' := fun (g_30 : Nat → Nat) => (bl [mdW G a (fla x) hi sl sv (rawF x) (opqF x) (kndF x) (tknF x) (cmpF x) g_30 w tx cl hl tl sp rd])) (fun g_30 => (pBs (n := 1) [mdW G a (fla x) hi sl sv (rawF x) (opqF x) (kndF x) (tknF x) (cmpF x) g_30 w tx cl hl tl sp rd] [0] [] rfl (by decide)).symm) (fun g_30 hf_30 => ?_))
      refine V.iconst (v := nI (0)) E dX5_row_33 (by decide) ?_
      refine V.istore_n (lv' := [some (.ref (a 0)), some (.int (nI (r_))), some (.int (nI (k_))), some (.int (nI (0))), none]) E dX5_row_34 rfl (Nat.le_of_ble_eq_true rfl) rfl rfl ?_
      refine V.iconst (v := nI (0)) E dX5_row_35 (by decide) ?_
      refine V.istore (lv' := [some (.ref (a 0)), some (.int (nI (r_))), some (.int (nI (k_))), some (.int (nI (0))), some (.int (nI (0)))]) E dX5_row_36 (Nat.le_of_ble_eq_true rfl) rfl rfl ?_
      refine V.loc (y := msk (fun j => decide (kndF x (8 * r_ + j) = k_)) 0) (lv' := [some (.ref (a 0)), some (.int (nI (r_))), some (.int (nI (k_))), some (.int (msk (fun j => decide (kndF x (8 * r_ + j) = k_)) 0)), some (.int (nI (0)))]) 3 (rfl) rfl rfl ?_
      refine loopN (P := fun i38 => V G A X rm_c_X5_row_ok (bl [mdW G a (fla x) hi sl sv (rawF x) (opqF x) (kndF x) (tknF x) (cmpF x) g_30 w tx cl hl tl sp rd]) 0 0 38 [some (.ref (a 0)), some (.int (nI (r_))), some (.int (nI (k_))), some (.int (msk (fun j => decide (kndF x (8 * r_ + j) = k_)) i38)), some (.int (nI (i38)))] []) 8 (fun i38 hi_38 ih_38 => ?_) 0 (Nat.zero_le _)
      refine V.iload E dX5_row_38 rfl ?_
      refine V.bipush (v := nI (8)) E dX5_row_40 (by decide) ?_
      refine V.icmp_geN (tgt := 78) E (by omega) (by omega) dX5_row_42 (by decide) (fun q_42 => ?_) (fun q_42 => ?_)
      · obtain rfl : i38 = 8 := by omega
        refine V.iload_n E dX5_row_78 rfl rfl ?_
        exact hend _ _ _ _ dX5_row_79 (nrI _) ⟨g_30, rfl, rfl, trivial⟩
      · refine V.iload_n E dX5_row_45 rfl rfl ?_
        refine V.aload_n E dX5_row_46 rfl rfl ?_
        refine V.getf (C := RX5) (T := TX5) (N := 17) (ref := "GlassSpillModel") E 0 5 7 (by decide +kernel) rfl rfl (by decide) (by decide +kernel) rfl rfl dX5_row_47 ?_
        refine V.bipush (v := nI (8)) E dX5_row_50 (by decide) ?_
        refine V.iload_n E dX5_row_52 rfl rfl ?_
        refine V.imulN E  dX5_row_53 ?_
        refine V.iload E dX5_row_54 rfl ?_
        refine V.iaddN E  dX5_row_56 ?_
        refine V.ialdN (v := nI ((kndF x) ((8 * r_) + i38))) E 7 rfl (by omega) (by decide) (rfl) dX5_row_57 ?_
        refine V.iload_n E dX5_row_58 rfl rfl ?_
        refine V.icmp_neN (tgt := 69) E (Nat.lt_of_le_of_lt (kndF_le x _) (by decide)) (by omega) dX5_row_59 (by decide) (fun q_59 => ?_) (fun q_59 => ?_)
        · refine V.iconst (v := nI (0)) E dX5_row_69 (by decide) ?_
          refine V.ior E dX5_row_70 ?_
          refine V.istore_n (lv' := [some (.ref (a 0)), some (.int (nI (r_))), some (.int (nI (k_))), some (.int ((msk (fun j => decide (kndF x (8 * r_ + j) = k_)) i38) ||| (nI (0)))), some (.int (nI (i38)))]) E dX5_row_71 rfl (Nat.le_of_ble_eq_true rfl) rfl rfl ?_
          refine V.iincN (lv' := [some (.ref (a 0)), some (.int (nI (r_))), some (.int (nI (k_))), some (.int ((msk (fun j => decide (kndF x (8 * r_ + j) = k_)) i38) ||| (nI (0)))), some (.int (nI (i38 + 1)))]) E dX5_row_72 rfl (Nat.le_of_ble_eq_true rfl) rfl rfl ?_
          refine V.goto (tgt := 38) E dX5_row_75 (by decide) ?_
          refine V.loc (y := msk (fun j => decide (kndF x (8 * r_ + j) = k_)) (i38 + 1)) (lv' := [some (.ref (a 0)), some (.int (nI (r_))), some (.int (nI (k_))), some (.int (msk (fun j => decide (kndF x (8 * r_ + j) = k_)) (i38 + 1))), some (.int (nI (i38 + 1)))]) 3 (by rw [msk, if_neg (by simp [q_59]), or_0]) rfl rfl ?_
          exact ih_38 (by omega)
        · refine V.iconst (v := nI (1)) E dX5_row_62 (by decide) ?_
          refine V.iload E dX5_row_63 rfl ?_
          refine V.ishlN E (by have : 2 ^ i38 ≤ 2 ^ 8 := Nat.pow_le_pow_right (by decide) (by omega); omega) (by omega) dX5_row_65 ?_
          refine V.goto (tgt := 70) E dX5_row_66 (by decide) ?_
          refine V.ior E dX5_row_70 ?_
          refine V.istore_n (lv' := [some (.ref (a 0)), some (.int (nI (r_))), some (.int (nI (k_))), some (.int ((msk (fun j => decide (kndF x (8 * r_ + j) = k_)) i38) ||| (nI (1 * 2 ^ i38)))), some (.int (nI (i38)))]) E dX5_row_71 rfl (Nat.le_of_ble_eq_true rfl) rfl rfl ?_
          refine V.iincN (lv' := [some (.ref (a 0)), some (.int (nI (r_))), some (.int (nI (k_))), some (.int ((msk (fun j => decide (kndF x (8 * r_ + j) = k_)) i38) ||| (nI (1 * 2 ^ i38)))), some (.int (nI (i38 + 1)))]) E dX5_row_72 rfl (Nat.le_of_ble_eq_true rfl) rfl rfl ?_
          refine V.goto (tgt := 38) E dX5_row_75 (by decide) ?_
          refine V.loc (y := msk (fun j => decide (kndF x (8 * r_ + j) = k_)) (i38 + 1)) (lv' := [some (.ref (a 0)), some (.int (nI (r_))), some (.int (nI (k_))), some (.int (msk (fun j => decide (kndF x (8 * r_ + j) = k_)) (i38 + 1))), some (.int (nI (i38 + 1)))]) 3 (by rw [msk, if_pos (decide_eq_true q_59)]) rfl rfl ?_
          exact ih_38 (by omega)
    · exact absurd ((okI_n hk (by omega)).symm.trans q_23) (by decide)
  · exact absurd ((okI_n hp (by omega)).symm.trans q_9) (by decide)
abbrev rm_c_X5_leastNear_bad : Room := { frames := 2, cells := 0, slots := 0, locals := 45 }
theorem hd_X5_leastNear : yX5_leastNear.cls ≠ "java/lang/invoke/MethodHandle" ∧ yX5_leastNear.cls ≠ "java/lang/invoke/VarHandle" ∧ (parseMethodDescriptor yX5_leastNear.desc).map (fun d => d.parameters.length) = some 1 := by decide +kernel
set_option maxRecDepth 100000 in
set_option maxHeartbeats 8000000 in
theorem c_X5_leastNear_bad (G : VC) (a : Nat → Nat) (hi : Nat → Nat) (sl : Nat → Nat) (sv : Nat → Nat) (r : Nat → Nat) (o : Nat → Nat) (k : Nat → Nat) (t : Nat → Nat) (m : Nat → Nat) (e : Nat → Nat) (w : Nat → Nat) (tx : Nat → Nat) (cl : Nat → Int32) (hl : Nat) (tl : Nat) (sp : Nat) (rd : Nat) (x : SC) (p_ : Int32) (hb : okI 48 p_ = false) : Ctr yX5_leastNear wsX5_leastNear rm_c_X5_leastNear_bad G [.ref (a 0), .int (p_)] (bl [mdW G a (fla x) hi sl sv r o k t m e w tx cl hl tl sp rd]) (fun v9_ u9_ => u9_ = (bl [mdW G a (fla x) hi sl sv r o k t m e w tx cl hl tl sp rd]) ∧ v9_ = some (.int ((-1 : Int32)))) := by
  refine Ctr.int (cc := cX5_leastNear) (maxL := 3) (ret := (some .int)) (lv0 := [some (.ref (a 0)), some (.int (p_)), none]) (by decide) rfl rfl rfl (Nat.le_of_ble_eq_true rfl) rfl (fun A X E hend => ?_)
  refine V.iload_n E dX5_leastNear_0 rfl rfl ?_
  refine V.callS E (c_X5_isPixel G p_ ) (bl [mdW G a (fla x) hi sl sv r o k t m e w tx cl hl tl sp rd]) [] gX5_leastNear_X5_isPixel rfl hd_X5_isPixel ⟨⟨Nat.le_of_ble_eq_true rfl, Nat.le_of_ble_eq_true rfl⟩, Nat.le_of_ble_eq_true rfl, Nat.le_of_ble_eq_true rfl⟩ rfl (Nat.le_of_ble_eq_true rfl) rfl dX5_leastNear_1 (List.Perm.refl _) (kc' := 0) (ks' := 0) rfl rfl (rwI (ws' := (bl [mdW G a (fla x) hi sl sv r o k t m e w tx cl hl tl sp rd])) (List.Perm.refl _) ?_)
  refine V.if_neB (tgt := 9) E dX5_leastNear_4 (by decide) (fun q_4 => ?_) (fun q_4 => ?_)
  · exact absurd (hb.symm.trans q_4) (by decide)
  · refine V.iconst (v := (-1 : Int32)) E dX5_leastNear_7 (by decide) ?_
    exact hend _ _ _ _ dX5_leastNear_8 (nrI _) ⟨rfl, rfl⟩
abbrev rm_c_X5_leastNear_ok : Room := { frames := 2, cells := 0, slots := 0, locals := 45 }
set_option maxRecDepth 100000 in
set_option maxHeartbeats 8000000 in
theorem c_X5_leastNear_ok (G : VC) (a : Nat → Nat) (hi : Nat → Nat) (sl : Nat → Nat) (sv : Nat → Nat) (r : Nat → Nat) (o : Nat → Nat) (k : Nat → Nat) (t : Nat → Nat) (m : Nat → Nat) (e : Nat → Nat) (w : Nat → Nat) (tx : Nat → Nat) (cl : Nat → Int32) (hl : Nat) (tl : Nat) (sp : Nat) (rd : Nat) (x : SC) (p_ : Nat) (hx : SInv x) (hp : p_ < 48) : Ctr yX5_leastNear wsX5_leastNear rm_c_X5_leastNear_ok G [.ref (a 0), .int (nI (p_))] (bl [mdW G a (fla x) hi sl sv r o k t m e w tx cl hl tl sp rd]) (fun v9_ u9_ => u9_ = (bl [mdW G a (fla x) hi sl sv r o k t m e w tx cl hl tl sp rd]) ∧ v9_ = some (.int (if dist (scF x p_) (scC x) < scS x 1 then nI (dist (scF x p_) (scC x)) else (-6 : Int32)))) := by
  refine Ctr.int (cc := cX5_leastNear) (maxL := 3) (ret := (some .int)) (lv0 := [some (.ref (a 0)), some (.int (nI (p_))), none]) (by decide) rfl rfl rfl (Nat.le_of_ble_eq_true rfl) rfl (fun A X E hend => ?_)
  refine V.iload_n E dX5_leastNear_0 rfl rfl ?_
  refine V.callS E (c_X5_isPixel G (nI (p_)) ) (bl [mdW G a (fla x) hi sl sv r o k t m e w tx cl hl tl sp rd]) [] gX5_leastNear_X5_isPixel rfl hd_X5_isPixel ⟨⟨Nat.le_of_ble_eq_true rfl, Nat.le_of_ble_eq_true rfl⟩, Nat.le_of_ble_eq_true rfl, Nat.le_of_ble_eq_true rfl⟩ rfl (Nat.le_of_ble_eq_true rfl) rfl dX5_leastNear_1 (List.Perm.refl _) (kc' := 0) (ks' := 0) rfl rfl (rwI (ws' := (bl [mdW G a (fla x) hi sl sv r o k t m e w tx cl hl tl sp rd])) (List.Perm.refl _) ?_)
  refine V.if_neB (tgt := 9) E dX5_leastNear_4 (by decide) (fun q_4 => ?_) (fun q_4 => ?_)
  · refine V.aload_n E dX5_leastNear_9 rfl rfl ?_
    refine V.getf (C := RX5) (T := TX5) (N := 17) (ref := "GlassSpillModel") E 0 5 0 (by decide +kernel) rfl rfl (by decide) (by decide +kernel) rfl rfl dX5_leastNear_10 ?_
    refine V.bipush (v := nI (7)) E dX5_leastNear_13 (by decide) ?_
    refine V.iload_n E dX5_leastNear_15 rfl rfl ?_
    refine V.iaddN E  dX5_leastNear_16 ?_
    refine V.ialdN (v := nI (scF x p_)) E 1 rfl (by omega) (by decide) (congrArg nI (fla_F _ (by omega))) dX5_leastNear_17 ?_
    refine V.aload_n E dX5_leastNear_18 rfl rfl ?_
    refine V.getf (C := RX5) (T := TX5) (N := 17) (ref := "GlassSpillModel") E 0 5 0 (by decide +kernel) rfl rfl (by decide) (by decide +kernel) rfl rfl dX5_leastNear_19 ?_
    refine V.bipush (v := nI (6)) E dX5_leastNear_22 (by decide) ?_
    refine V.ialdN (v := nI (scC x)) E 1 rfl (by omega) (by decide) (congrArg nI (fla_C _)) dX5_leastNear_24 ?_
    refine V.callS E (c_X5_distanceOf G (scF x p_) (scC x) (hx.f _ hp) (hx.c)) (bl [mdW G a (fla x) hi sl sv r o k t m e w tx cl hl tl sp rd]) [] gX5_leastNear_X5_distanceOf rfl hd_X5_distanceOf ⟨⟨Nat.le_of_ble_eq_true rfl, Nat.le_of_ble_eq_true rfl⟩, Nat.le_of_ble_eq_true rfl, Nat.le_of_ble_eq_true rfl⟩ rfl (Nat.le_of_ble_eq_true rfl) rfl dX5_leastNear_25 (List.Perm.refl _) (kc' := 0) (ks' := 0) rfl rfl (rwI (ws' := (bl [mdW G a (fla x) hi sl sv r o k t m e w tx cl hl tl sp rd])) (List.Perm.refl _) ?_)
    refine V.istore_n (lv' := [some (.ref (a 0)), some (.int (nI (p_))), some (.int (nI (dist (scF x p_) (scC x))))]) E dX5_leastNear_28 rfl (Nat.le_of_ble_eq_true rfl) rfl rfl ?_
    refine V.iload_n E dX5_leastNear_29 rfl rfl ?_
    refine V.aload_n E dX5_leastNear_30 rfl rfl ?_
    refine V.getf (C := RX5) (T := TX5) (N := 17) (ref := "GlassSpillModel") E 0 5 0 (by decide +kernel) rfl rfl (by decide) (by decide +kernel) rfl rfl dX5_leastNear_31 ?_
    refine V.iconst (v := nI (1)) E dX5_leastNear_34 (by decide) ?_
    refine V.ialdN (v := nI (scS x 1)) E 1 rfl (by omega) (by decide) (congrArg nI (fla_S _ (by decide))) dX5_leastNear_35 ?_
    refine V.icmp_geN (tgt := 43) E (Nat.lt_of_le_of_lt (dist_le _ _) (by decide)) (by have := hx.s1; omega) dX5_leastNear_36 (by decide) (fun q_36 => ?_) (fun q_36 => ?_)
    · refine V.bipush (v := (-6 : Int32)) E dX5_leastNear_43 (by decide) ?_
      refine V.top (y := if dist (scF x p_) (scC x) < scS x 1 then nI (dist (scF x p_) (scC x)) else (-6 : Int32)) (by first | rw [if_pos q_36] | rw [if_neg (by omega)]) ?_
      exact hend _ _ _ _ dX5_leastNear_45 (nrI _) ⟨rfl, rfl⟩
    · refine V.iload_n E dX5_leastNear_39 rfl rfl ?_
      refine V.goto (tgt := 45) E dX5_leastNear_40 (by decide) ?_
      refine V.top (y := if dist (scF x p_) (scC x) < scS x 1 then nI (dist (scF x p_) (scC x)) else (-6 : Int32)) (by first | rw [if_pos q_36] | rw [if_neg (by omega)]) ?_
      exact hend _ _ _ _ dX5_leastNear_45 (nrI _) ⟨rfl, rfl⟩
  · exact absurd ((okI_n hp (by omega)).symm.trans q_4) (by decide)
abbrev rm_c_X5_undo_none : Room := { frames := 0, cells := 0, slots := 0, locals := 0 }
theorem hd_X5_undo : yX5_undo.cls ≠ "java/lang/invoke/MethodHandle" ∧ yX5_undo.cls ≠ "java/lang/invoke/VarHandle" ∧ (parseMethodDescriptor yX5_undo.desc).map (fun d => d.parameters.length) = some 0 := by decide +kernel
set_option maxRecDepth 100000 in
set_option maxHeartbeats 8000000 in
theorem c_X5_undo_none (G : VC) (a : Nat → Nat) (hi : Nat → Nat) (sl : Nat → Nat) (sv : Nat → Nat) (r : Nat → Nat) (o : Nat → Nat) (k : Nat → Nat) (t : Nat → Nat) (m : Nat → Nat) (e : Nat → Nat) (w : Nat → Nat) (tx : Nat → Nat) (cl : Nat → Int32) (tl : Nat) (sp : Nat) (rd : Nat) (x : SC) : Ctr yX5_undo wsX5_undo rm_c_X5_undo_none G [.ref (a 0)] (bl [mdW G a (fla x) hi sl sv r o k t m e w tx cl 0 tl sp rd]) (fun v9_ u9_ => u9_ = (bl [mdW G a (fla x) hi sl sv r o k t m e w tx cl 0 tl sp rd]) ∧ v9_ = some (.int ((-5 : Int32)))) := by
  refine Ctr.int (cc := cX5_undo) (maxL := 2) (ret := (some .int)) (lv0 := [some (.ref (a 0)), none]) (by decide) rfl rfl rfl (Nat.le_of_ble_eq_true rfl) rfl (fun A X E hend => ?_)
  refine V.aload_n E dX5_undo_0 rfl rfl ?_
  refine V.getf (C := RX5) (T := TX5) (N := 17) (ref := "GlassSpillModel") E 0 5 2 (by decide +kernel) rfl rfl (by decide) (by decide +kernel) rfl rfl dX5_undo_1 ?_
  refine V.if_neN (tgt := 10) E (by omega) dX5_undo_4 (by decide) (fun q_4 => absurd q_4 (by decide)) (fun q_4 => ?_)
  refine V.bipush (v := (-5 : Int32)) E dX5_undo_7 (by decide) ?_
  exact hend _ _ _ _ dX5_undo_9 (nrI _) ⟨rfl, rfl⟩
abbrev rm_c_X5_undo_ok : Room := { frames := 0, cells := 0, slots := 0, locals := 0 }
set_option maxRecDepth 100000 in
set_option maxHeartbeats 8000000 in
theorem c_X5_undo_ok (G : VC) (a : Nat → Nat) (hi : Nat → Nat) (sl : Nat → Nat) (sv : Nat → Nat) (r : Nat → Nat) (o : Nat → Nat) (k : Nat → Nat) (t : Nat → Nat) (m : Nat → Nat) (e : Nat → Nat) (w : Nat → Nat) (tx : Nat → Nat) (cl : Nat → Int32) (tl : Nat) (sp : Nat) (rd : Nat) (x : SC) (hh : Nat → SC) (hq : Nat) (hl6 : hq < 6) (hH : HI (hq + 1) hh hi) : Ctr yX5_undo wsX5_undo rm_c_X5_undo_ok G [.ref (a 0)] (bl [mdW G a (fla x) hi sl sv r o k t m e w tx cl (hq + 1) tl sp rd]) (fun v9_ u9_ => u9_ = (bl [mdW G a (fla (hh hq)) hi sl sv r o k t m e w tx cl hq tl sp rd]) ∧ v9_ = some (.int (nI (hq)))) := by
  refine Ctr.int (cc := cX5_undo) (maxL := 2) (ret := (some .int)) (lv0 := [some (.ref (a 0)), none]) (by decide) rfl rfl rfl (Nat.le_of_ble_eq_true rfl) rfl (fun A X E hend => ?_)
  refine V.aload_n E dX5_undo_0 rfl rfl ?_
  refine V.getf (C := RX5) (T := TX5) (N := 17) (ref := "GlassSpillModel") E 0 5 2 (by decide +kernel) rfl rfl (by decide) (by decide +kernel) rfl rfl dX5_undo_1 ?_
  refine V.if_neN (tgt := 10) E (by omega) dX5_undo_4 (by decide) (fun q_4 => ?_) (fun q_4 => ?_)
  · refine V.aload_n E dX5_undo_10 rfl rfl ?_
    refine V.dup E dX5_undo_11 rfl ?_
    refine V.getf (C := RX5) (T := TX5) (N := 17) (ref := "GlassSpillModel") E 0 5 2 (by decide +kernel) rfl rfl (by decide) (by decide +kernel) rfl rfl dX5_undo_12 ?_
    refine V.iconst (v := nI (1)) E dX5_undo_15 (by decide) ?_
    refine V.isubN E (by omega) dX5_undo_16 ?_
    refine V.topN (b := hq) (by omega) ?_
    refine V.putf (C := RX5) (T := TX5) (N := 17) (ref := "GlassSpillModel") (ws' := (bl [mdW G a (fla x) hi sl sv r o k t m e w tx cl hq tl sp rd])) E 0 5 2 (by decide +kernel) tyX5_ok nmX5 rfl rfl (by decide) (by decide +kernel) rfl rfl rfl rfl (Nat.le_of_ble_eq_true rfl) dX5_undo_17 rfl ?_
    refine V.iconst (v := nI (0)) E dX5_undo_20 (by decide) ?_
    refine V.istore_n (lv' := [some (.ref (a 0)), some (.int (nI (0)))]) E dX5_undo_21 rfl (Nat.le_of_ble_eq_true rfl) rfl rfl ?_
    refine V.arr (f' := nA (mxn 0 (fla (hh hq)) (fla x))) (ws' := (bl [mdW G a (mxn 0 (fla (hh hq)) (fla x)) hi sl sv r o k t m e w tx cl hq tl sp rd])) 1 rfl (fun j _ => mxn_0 j) rfl ?_
    refine loopN (P := fun i22 => V G A X rm_c_X5_undo_ok (bl [mdW G a (mxn i22 (fla (hh hq)) (fla x)) hi sl sv r o k t m e w tx cl hq tl sp rd]) 0 0 22 [some (.ref (a 0)), some (.int (nI (i22)))] []) 151 (fun i22 hi_22 ih_22 => ?_) 0 (Nat.zero_le _)
    refine V.iload_n E dX5_undo_22 rfl rfl ?_
    refine V.sipush (v := nI (151)) E dX5_undo_23 (by decide) ?_
    refine V.icmp_geN (tgt := 56) E (by omega) (by omega) dX5_undo_26 (by decide) (fun q_26 => ?_) (fun q_26 => ?_)
    · obtain rfl : i22 = 151 := by omega
      refine V.arr (f' := nA (fla (hh hq))) (ws' := (bl [mdW G a (fla (hh hq)) hi sl sv r o k t m e w tx cl hq tl sp rd])) 1 rfl (fun j hj => mxn_n j hj) rfl ?_
      refine V.aload_n E dX5_undo_56 rfl rfl ?_
      refine V.getf (C := RX5) (T := TX5) (N := 17) (ref := "GlassSpillModel") E 0 5 2 (by decide +kernel) rfl rfl (by decide) (by decide +kernel) rfl rfl dX5_undo_57 ?_
      exact hend _ _ _ _ dX5_undo_60 (nrI _) ⟨rfl, rfl⟩
    · refine V.aload_n E dX5_undo_29 rfl rfl ?_
      refine V.getf (C := RX5) (T := TX5) (N := 17) (ref := "GlassSpillModel") E 0 5 0 (by decide +kernel) rfl rfl (by decide) (by decide +kernel) rfl rfl dX5_undo_30 ?_
      refine V.iload_n E dX5_undo_33 rfl rfl ?_
      refine V.aload_n E dX5_undo_34 rfl rfl ?_
      refine V.getf (C := RX5) (T := TX5) (N := 17) (ref := "GlassSpillModel") E 0 5 1 (by decide +kernel) rfl rfl (by decide) (by decide +kernel) rfl rfl dX5_undo_35 ?_
      refine V.sipush (v := nI (151)) E dX5_undo_38 (by decide) ?_
      refine V.aload_n E dX5_undo_41 rfl rfl ?_
      refine V.getf (C := RX5) (T := TX5) (N := 17) (ref := "GlassSpillModel") E 0 5 2 (by decide +kernel) rfl rfl (by decide) (by decide +kernel) rfl rfl dX5_undo_42 ?_
      refine V.imulN E  dX5_undo_45 ?_
      refine V.iload_n E dX5_undo_46 rfl rfl ?_
      refine V.iaddN E  dX5_undo_47 ?_
      refine V.ialdN (v := nI (fla (hh hq) i22)) E 2 rfl (by omega) (by decide) (congrArg nI (hH hq (by omega) i22 (by omega))) dX5_undo_48 ?_
      refine V.iastN (f' := nA (mxn (i22 + 1) (fla (hh hq)) (fla x))) (ws' := (bl [mdW G a (mxn (i22 + 1) (fla (hh hq)) (fla x)) hi sl sv r o k t m e w tx cl hq tl sp rd])) E 1 rfl (by omega) (by decide) dX5_undo_49 (fun j _ => mxn_u rfl j) rfl ?_
      refine V.iincN (lv' := [some (.ref (a 0)), some (.int (nI (i22 + 1)))]) E dX5_undo_50 rfl (Nat.le_of_ble_eq_true rfl) rfl rfl ?_
      refine V.goto (tgt := 22) E dX5_undo_53 (by decide) ?_
      exact ih_22 (by omega)
  · exact absurd q_4 (by omega)
abbrev rm_c_X5_save_bad : Room := { frames := 1, cells := 0, slots := 0, locals := 20 }
theorem hd_X5_save : yX5_save.cls ≠ "java/lang/invoke/MethodHandle" ∧ yX5_save.cls ≠ "java/lang/invoke/VarHandle" ∧ (parseMethodDescriptor yX5_save.desc).map (fun d => d.parameters.length) = some 1 := by decide +kernel
set_option maxRecDepth 100000 in
set_option maxHeartbeats 8000000 in
theorem c_X5_save_bad (G : VC) (a : Nat → Nat) (hi : Nat → Nat) (sl : Nat → Nat) (sv : Nat → Nat) (r : Nat → Nat) (o : Nat → Nat) (k : Nat → Nat) (t : Nat → Nat) (m : Nat → Nat) (e : Nat → Nat) (w : Nat → Nat) (tx : Nat → Nat) (cl : Nat → Int32) (hl : Nat) (tl : Nat) (sp : Nat) (rd : Nat) (x : SC) (s_ : Int32) (hb : okI 2 s_ = false) : Ctr yX5_save wsX5_save rm_c_X5_save_bad G [.ref (a 0), .int (s_)] (bl [mdW G a (fla x) hi sl sv r o k t m e w tx cl hl tl sp rd]) (fun v9_ u9_ => u9_ = (bl [mdW G a (fla x) hi sl sv r o k t m e w tx cl hl tl sp rd]) ∧ v9_ = some (.int ((-2 : Int32)))) := by
  refine Ctr.int (cc := cX5_save) (maxL := 3) (ret := (some .int)) (lv0 := [some (.ref (a 0)), some (.int (s_)), none]) (by decide) rfl rfl rfl (Nat.le_of_ble_eq_true rfl) rfl (fun A X E hend => ?_)
  refine V.iload_n E dX5_save_0 rfl rfl ?_
  refine V.callS E (c_X5_isSlot G s_ ) (bl [mdW G a (fla x) hi sl sv r o k t m e w tx cl hl tl sp rd]) [] gX5_save_X5_isSlot rfl hd_X5_isSlot ⟨⟨Nat.le_of_ble_eq_true rfl, Nat.le_of_ble_eq_true rfl⟩, Nat.le_of_ble_eq_true rfl, Nat.le_of_ble_eq_true rfl⟩ rfl (Nat.le_of_ble_eq_true rfl) rfl dX5_save_1 (List.Perm.refl _) (kc' := 0) (ks' := 0) rfl rfl (rwI (ws' := (bl [mdW G a (fla x) hi sl sv r o k t m e w tx cl hl tl sp rd])) (List.Perm.refl _) ?_)
  refine V.if_neB (tgt := 10) E dX5_save_4 (by decide) (fun q_4 => ?_) (fun q_4 => ?_)
  · exact absurd (hb.symm.trans q_4) (by decide)
  · refine V.bipush (v := (-2 : Int32)) E dX5_save_7 (by decide) ?_
    exact hend _ _ _ _ dX5_save_9 (nrI _) ⟨rfl, rfl⟩
abbrev rm_c_X5_save_ok : Room := { frames := 1, cells := 0, slots := 0, locals := 22 }
set_option maxRecDepth 100000 in
set_option maxHeartbeats 8000000 in
theorem c_X5_save_ok (G : VC) (a : Nat → Nat) (hi : Nat → Nat) (sl : Nat → Nat) (sv : Nat → Nat) (r : Nat → Nat) (o : Nat → Nat) (k : Nat → Nat) (t : Nat → Nat) (m : Nat → Nat) (e : Nat → Nat) (w : Nat → Nat) (tx : Nat → Nat) (cl : Nat → Int32) (hl : Nat) (tl : Nat) (sp : Nat) (rd : Nat) (x : SC) (s_ : Nat) (hp : s_ < 2) : Ctr yX5_save wsX5_save rm_c_X5_save_ok G [.ref (a 0), .int (nI (s_))] (bl [mdW G a (fla x) hi sl sv r o k t m e w tx cl hl tl sp rd]) (fun v9_ u9_ => u9_ = (bl [mdW G a (fla x) hi (ins (151 * s_) 151 (fla x) sl) (upN sv s_ 1) r o k t m e w tx cl hl tl sp rd]) ∧ v9_ = some (.int (nI (sumN 48 (scG x))))) := by
  refine Ctr.int (cc := cX5_save) (maxL := 3) (ret := (some .int)) (lv0 := [some (.ref (a 0)), some (.int (nI (s_))), none]) (by decide) rfl rfl rfl (Nat.le_of_ble_eq_true rfl) rfl (fun A X E hend => ?_)
  refine V.iload_n E dX5_save_0 rfl rfl ?_
  refine V.callS E (c_X5_isSlot G (nI (s_)) ) (bl [mdW G a (fla x) hi sl sv r o k t m e w tx cl hl tl sp rd]) [] gX5_save_X5_isSlot rfl hd_X5_isSlot ⟨⟨Nat.le_of_ble_eq_true rfl, Nat.le_of_ble_eq_true rfl⟩, Nat.le_of_ble_eq_true rfl, Nat.le_of_ble_eq_true rfl⟩ rfl (Nat.le_of_ble_eq_true rfl) rfl dX5_save_1 (List.Perm.refl _) (kc' := 0) (ks' := 0) rfl rfl (rwI (ws' := (bl [mdW G a (fla x) hi sl sv r o k t m e w tx cl hl tl sp rd])) (List.Perm.refl _) ?_)
  refine V.if_neB (tgt := 10) E dX5_save_4 (by decide) (fun q_4 => ?_) (fun q_4 => ?_)
  · refine V.iconst (v := nI (0)) E dX5_save_10 (by decide) ?_
    refine V.istore_n (lv' := [some (.ref (a 0)), some (.int (nI (s_))), some (.int (nI (0)))]) E dX5_save_11 rfl (Nat.le_of_ble_eq_true rfl) rfl rfl ?_
    refine V.arr (f' := nA (ins (151 * s_) 0 (fla x) sl)) (ws' := (bl [mdW G a (fla x) hi (ins (151 * s_) 0 (fla x) sl) sv r o k t m e w tx cl hl tl sp rd])) 3 rfl (fun j _ => ins_0 j) rfl ?_
    refine loopN (P := fun i12 => V G A X rm_c_X5_save_ok (bl [mdW G a (fla x) hi (ins (151 * s_) i12 (fla x) sl) sv r o k t m e w tx cl hl tl sp rd]) 0 0 12 [some (.ref (a 0)), some (.int (nI (s_))), some (.int (nI (i12)))] []) 151 (fun i12 hi_12 ih_12 => ?_) 0 (Nat.zero_le _)
    refine V.iload_n E dX5_save_12 rfl rfl ?_
    refine V.sipush (v := nI (151)) E dX5_save_13 (by decide) ?_
    refine V.icmp_geN (tgt := 43) E (by omega) (by omega) dX5_save_16 (by decide) (fun q_16 => ?_) (fun q_16 => ?_)
    · obtain rfl : i12 = 151 := by omega
      refine V.aload_n E dX5_save_43 rfl rfl ?_
      refine V.getf (C := RX5) (T := TX5) (N := 17) (ref := "GlassSpillModel") E 0 5 4 (by decide +kernel) rfl rfl (by decide) (by decide +kernel) rfl rfl dX5_save_44 ?_
      refine V.iload_n E dX5_save_47 rfl rfl ?_
      refine V.iconst (v := nI (1)) E dX5_save_48 (by decide) ?_
      refine V.iastN (f' := nA (upN sv s_ 1)) (ws' := (bl [mdW G a (fla x) hi (ins (151 * s_) 151 (fla x) sl) (upN sv s_ 1) r o k t m e w tx cl hl tl sp rd])) E 4 rfl (by omega) (by decide) dX5_save_49 (fun j _ => upN_a j) rfl ?_
      refine V.aload_n E dX5_save_50 rfl rfl ?_
      refine V.callV (C := RX5) E (c_X5_marked G a hi (ins (151 * s_) 151 (fla x) sl) (upN sv s_ 1) r o k t m e w tx cl hl tl sp rd x ) (bl []) [] 0 5 rfl rfl rfl gX5_save_X5_marked rfl ⟨rfl, hd_X5_marked⟩ ⟨⟨Nat.le_of_ble_eq_true rfl, Nat.le_of_ble_eq_true rfl⟩, Nat.le_of_ble_eq_true rfl, Nat.le_of_ble_eq_true rfl⟩ rfl (Nat.le_of_ble_eq_true rfl) rfl dX5_save_51 (pBs (n := 1) [mdW G a (fla x) hi (ins (151 * s_) 151 (fla x) sl) (upN sv s_ 1) r o k t m e w tx cl hl tl sp rd] [0] [] rfl (by decide)) (kc' := 0) (ks' := 0) rfl rfl (rwI (ws' := (bl [mdW G a (fla x) hi (ins (151 * s_) 151 (fla x) sl) (upN sv s_ 1) r o k t m e w tx cl hl tl sp rd])) (pBs (n := 1) [mdW G a (fla x) hi (ins (151 * s_) 151 (fla x) sl) (upN sv s_ 1) r o k t m e w tx cl hl tl sp rd] [0] [] rfl (by decide)).symm ?_)
      exact hend _ _ _ _ dX5_save_54 (nrI _) ⟨rfl, rfl⟩
    · refine V.aload_n E dX5_save_19 rfl rfl ?_
      refine V.getf (C := RX5) (T := TX5) (N := 17) (ref := "GlassSpillModel") E 0 5 3 (by decide +kernel) rfl rfl (by decide) (by decide +kernel) rfl rfl dX5_save_20 ?_
      refine V.sipush (v := nI (151)) E dX5_save_23 (by decide) ?_
      refine V.iload_n E dX5_save_26 rfl rfl ?_
      refine V.imulN E  dX5_save_27 ?_
      refine V.iload_n E dX5_save_28 rfl rfl ?_
      refine V.iaddN E  dX5_save_29 ?_
      refine V.aload_n E dX5_save_30 rfl rfl ?_
      refine V.getf (C := RX5) (T := TX5) (N := 17) (ref := "GlassSpillModel") E 0 5 0 (by decide +kernel) rfl rfl (by decide) (by decide +kernel) rfl rfl dX5_save_31 ?_
      refine V.iload_n E dX5_save_34 rfl rfl ?_
      refine V.ialdN (v := nI (fla x i12)) E 1 rfl (by omega) (by decide) (rfl) dX5_save_35 ?_
      refine V.iastN (f' := nA (ins (151 * s_) (i12 + 1) (fla x) sl)) (ws' := (bl [mdW G a (fla x) hi (ins (151 * s_) (i12 + 1) (fla x) sl) sv r o k t m e w tx cl hl tl sp rd])) E 3 rfl (by omega) (by decide) dX5_save_36 (fun j _ => ins_u j) rfl ?_
      refine V.iincN (lv' := [some (.ref (a 0)), some (.int (nI (s_))), some (.int (nI (i12 + 1)))]) E dX5_save_37 rfl (Nat.le_of_ble_eq_true rfl) rfl rfl ?_
      refine V.goto (tgt := 12) E dX5_save_40 (by decide) ?_
      exact ih_12 (by omega)
  · exact absurd ((okI_n hp (by omega)).symm.trans q_4) (by decide)
abbrev rm_c_X5_restore_bad : Room := { frames := 1, cells := 0, slots := 0, locals := 20 }
theorem hd_X5_restore : yX5_restore.cls ≠ "java/lang/invoke/MethodHandle" ∧ yX5_restore.cls ≠ "java/lang/invoke/VarHandle" ∧ (parseMethodDescriptor yX5_restore.desc).map (fun d => d.parameters.length) = some 1 := by decide +kernel
set_option maxRecDepth 100000 in
set_option maxHeartbeats 8000000 in
theorem c_X5_restore_bad (G : VC) (a : Nat → Nat) (hi : Nat → Nat) (sl : Nat → Nat) (sv : Nat → Nat) (r : Nat → Nat) (o : Nat → Nat) (k : Nat → Nat) (t : Nat → Nat) (m : Nat → Nat) (e : Nat → Nat) (w : Nat → Nat) (tx : Nat → Nat) (cl : Nat → Int32) (hl : Nat) (tl : Nat) (sp : Nat) (rd : Nat) (x : SC) (s_ : Int32) (hb : okI 2 s_ = false) : Ctr yX5_restore wsX5_restore rm_c_X5_restore_bad G [.ref (a 0), .int (s_)] (bl [mdW G a (fla x) hi sl sv r o k t m e w tx cl hl tl sp rd]) (fun v9_ u9_ => u9_ = (bl [mdW G a (fla x) hi sl sv r o k t m e w tx cl hl tl sp rd]) ∧ v9_ = some (.int ((-2 : Int32)))) := by
  refine Ctr.int (cc := cX5_restore) (maxL := 3) (ret := (some .int)) (lv0 := [some (.ref (a 0)), some (.int (s_)), none]) (by decide) rfl rfl rfl (Nat.le_of_ble_eq_true rfl) rfl (fun A X E hend => ?_)
  refine V.iload_n E dX5_restore_0 rfl rfl ?_
  refine V.callS E (c_X5_isSlot G s_ ) (bl [mdW G a (fla x) hi sl sv r o k t m e w tx cl hl tl sp rd]) [] gX5_restore_X5_isSlot rfl hd_X5_isSlot ⟨⟨Nat.le_of_ble_eq_true rfl, Nat.le_of_ble_eq_true rfl⟩, Nat.le_of_ble_eq_true rfl, Nat.le_of_ble_eq_true rfl⟩ rfl (Nat.le_of_ble_eq_true rfl) rfl dX5_restore_1 (List.Perm.refl _) (kc' := 0) (ks' := 0) rfl rfl (rwI (ws' := (bl [mdW G a (fla x) hi sl sv r o k t m e w tx cl hl tl sp rd])) (List.Perm.refl _) ?_)
  refine V.if_neB (tgt := 10) E dX5_restore_4 (by decide) (fun q_4 => ?_) (fun q_4 => ?_)
  · exact absurd (hb.symm.trans q_4) (by decide)
  · refine V.bipush (v := (-2 : Int32)) E dX5_restore_7 (by decide) ?_
    exact hend _ _ _ _ dX5_restore_9 (nrI _) ⟨rfl, rfl⟩
abbrev rm_c_X5_restore_none : Room := { frames := 1, cells := 0, slots := 0, locals := 20 }
set_option maxRecDepth 100000 in
set_option maxHeartbeats 8000000 in
theorem c_X5_restore_none (G : VC) (a : Nat → Nat) (hi : Nat → Nat) (sl : Nat → Nat) (sv : Nat → Nat) (r : Nat → Nat) (o : Nat → Nat) (k : Nat → Nat) (t : Nat → Nat) (m : Nat → Nat) (e : Nat → Nat) (w : Nat → Nat) (tx : Nat → Nat) (cl : Nat → Int32) (hl : Nat) (tl : Nat) (sp : Nat) (rd : Nat) (x : SC) (s_ : Nat) (hp : s_ < 2) (hs : sv s_ = 0) : Ctr yX5_restore wsX5_restore rm_c_X5_restore_none G [.ref (a 0), .int (nI (s_))] (bl [mdW G a (fla x) hi sl sv r o k t m e w tx cl hl tl sp rd]) (fun v9_ u9_ => u9_ = (bl [mdW G a (fla x) hi sl sv r o k t m e w tx cl hl tl sp rd]) ∧ v9_ = some (.int ((-5 : Int32)))) := by
  refine Ctr.int (cc := cX5_restore) (maxL := 3) (ret := (some .int)) (lv0 := [some (.ref (a 0)), some (.int (nI (s_))), none]) (by decide) rfl rfl rfl (Nat.le_of_ble_eq_true rfl) rfl (fun A X E hend => ?_)
  refine V.iload_n E dX5_restore_0 rfl rfl ?_
  refine V.callS E (c_X5_isSlot G (nI (s_)) ) (bl [mdW G a (fla x) hi sl sv r o k t m e w tx cl hl tl sp rd]) [] gX5_restore_X5_isSlot rfl hd_X5_isSlot ⟨⟨Nat.le_of_ble_eq_true rfl, Nat.le_of_ble_eq_true rfl⟩, Nat.le_of_ble_eq_true rfl, Nat.le_of_ble_eq_true rfl⟩ rfl (Nat.le_of_ble_eq_true rfl) rfl dX5_restore_1 (List.Perm.refl _) (kc' := 0) (ks' := 0) rfl rfl (rwI (ws' := (bl [mdW G a (fla x) hi sl sv r o k t m e w tx cl hl tl sp rd])) (List.Perm.refl _) ?_)
  refine V.if_neB (tgt := 10) E dX5_restore_4 (by decide) (fun q_4 => ?_) (fun q_4 => ?_)
  · refine V.aload_n E dX5_restore_10 rfl rfl ?_
    refine V.getf (C := RX5) (T := TX5) (N := 17) (ref := "GlassSpillModel") E 0 5 4 (by decide +kernel) rfl rfl (by decide) (by decide +kernel) rfl rfl dX5_restore_11 ?_
    refine V.iload_n E dX5_restore_14 rfl rfl ?_
    refine V.ialdN (v := nI (sv s_)) E 4 rfl (by omega) (by decide) (rfl) dX5_restore_15 ?_
    refine V.if_neN (tgt := 22) E (by omega) dX5_restore_16 (by decide) (fun q_16 => ?_) (fun q_16 => ?_)
    · exact absurd hs q_16
    · refine V.bipush (v := (-5 : Int32)) E dX5_restore_19 (by decide) ?_
      exact hend _ _ _ _ dX5_restore_21 (nrI _) ⟨rfl, rfl⟩
  · exact absurd ((okI_n hp (by omega)).symm.trans q_4) (by decide)
abbrev rm_c_X5_restore_ok : Room := { frames := 1, cells := 0, slots := 0, locals := 22 }
set_option maxRecDepth 100000 in
set_option maxHeartbeats 8000000 in
theorem c_X5_restore_ok (G : VC) (a : Nat → Nat) (hi : Nat → Nat) (sl : Nat → Nat) (sv : Nat → Nat) (r : Nat → Nat) (o : Nat → Nat) (k : Nat → Nat) (t : Nat → Nat) (m : Nat → Nat) (e : Nat → Nat) (w : Nat → Nat) (tx : Nat → Nat) (cl : Nat → Int32) (hl : Nat) (tl : Nat) (sp : Nat) (rd : Nat) (x : SC) (hh : Nat → SC) (s_ : Nat) (y : SC) (hl6 : hl ≤ 6) (hH : HI hl hh hi) (hp : s_ < 2) (hs : sv s_ = 1) (hS : ∀ j, j < 151 → sl (151 * s_ + j) = fla y j) : Ctr yX5_restore wsX5_restore rm_c_X5_restore_ok G [.ref (a 0), .int (nI (s_))] (bl [mdW G a (fla x) hi sl sv r o k t m e w tx cl hl tl sp rd]) (fun v9_ u9_ => ∃ gh : Nat → Nat, u9_ = (bl [mdW G a (fla y) gh sl sv r o k t m e w tx cl (hlN hl) tl sp rd]) ∧ v9_ = some (.int (nI (sumN 48 (scG y)))) ∧ (HI (hlN hl) (hhN x hl hh) gh)) := by
  refine Ctr.int (cc := cX5_restore) (maxL := 3) (ret := (some .int)) (lv0 := [some (.ref (a 0)), some (.int (nI (s_))), none]) (by decide) rfl rfl rfl (Nat.le_of_ble_eq_true rfl) rfl (fun A X E hend => ?_)
  refine V.iload_n E dX5_restore_0 rfl rfl ?_
  refine V.callS E (c_X5_isSlot G (nI (s_)) ) (bl [mdW G a (fla x) hi sl sv r o k t m e w tx cl hl tl sp rd]) [] gX5_restore_X5_isSlot rfl hd_X5_isSlot ⟨⟨Nat.le_of_ble_eq_true rfl, Nat.le_of_ble_eq_true rfl⟩, Nat.le_of_ble_eq_true rfl, Nat.le_of_ble_eq_true rfl⟩ rfl (Nat.le_of_ble_eq_true rfl) rfl dX5_restore_1 (List.Perm.refl _) (kc' := 0) (ks' := 0) rfl rfl (rwI (ws' := (bl [mdW G a (fla x) hi sl sv r o k t m e w tx cl hl tl sp rd])) (List.Perm.refl _) ?_)
  refine V.if_neB (tgt := 10) E dX5_restore_4 (by decide) (fun q_4 => ?_) (fun q_4 => ?_)
  · refine V.aload_n E dX5_restore_10 rfl rfl ?_
    refine V.getf (C := RX5) (T := TX5) (N := 17) (ref := "GlassSpillModel") E 0 5 4 (by decide +kernel) rfl rfl (by decide) (by decide +kernel) rfl rfl dX5_restore_11 ?_
    refine V.iload_n E dX5_restore_14 rfl rfl ?_
    refine V.ialdN (v := nI (sv s_)) E 4 rfl (by omega) (by decide) (rfl) dX5_restore_15 ?_
    refine V.if_neN (tgt := 22) E (by omega) dX5_restore_16 (by decide) (fun q_16 => ?_) (fun q_16 => ?_)
    · refine V.aload_n E dX5_restore_22 rfl rfl ?_
      refine V.callV (C := RX5) E (c_X5_changes G a hi sl sv r o k t m e w tx cl hl tl sp rd x hh (hl6) (hH)) (bl []) [] 0 5 rfl rfl rfl gX5_restore_X5_changes rfl ⟨rfl, hd_X5_changes⟩ ⟨⟨Nat.le_of_ble_eq_true rfl, Nat.le_of_ble_eq_true rfl⟩, Nat.le_of_ble_eq_true rfl, Nat.le_of_ble_eq_true rfl⟩ rfl (Nat.le_of_ble_eq_true rfl) rfl dX5_restore_23 (pBs (n := 1) [mdW G a (fla x) hi sl sv r o k t m e w tx cl hl tl sp rd] [0] [] rfl (by decide)) (kc' := 0) (ks' := 0) rfl rfl (rxV (ws' := fun (g_23 : Nat → Nat) => (bl [mdW G a (fla x) g_23 sl sv r o k t m e w tx cl (hlN hl) tl sp rd])) (fun g_23 => (pBs (n := 1) [mdW G a (fla x) g_23 sl sv r o k t m e w tx cl (hlN hl) tl sp rd] [0] [] rfl (by decide)).symm) (fun g_23 hf_23 => ?_))
      refine V.iconst (v := nI (0)) E dX5_restore_26 (by decide) ?_
      refine V.istore_n (lv' := [some (.ref (a 0)), some (.int (nI (s_))), some (.int (nI (0)))]) E dX5_restore_27 rfl (Nat.le_of_ble_eq_true rfl) rfl rfl ?_
      refine V.arr (f' := nA (mxn 0 (fla y) (fla x))) (ws' := (bl [mdW G a (mxn 0 (fla y) (fla x)) g_23 sl sv r o k t m e w tx cl (hlN hl) tl sp rd])) 1 rfl (fun j _ => mxn_0 j) rfl ?_
      refine loopN (P := fun i28 => V G A X rm_c_X5_restore_ok (bl [mdW G a (mxn i28 (fla y) (fla x)) g_23 sl sv r o k t m e w tx cl (hlN hl) tl sp rd]) 0 0 28 [some (.ref (a 0)), some (.int (nI (s_))), some (.int (nI (i28)))] []) 151 (fun i28 hi_28 ih_28 => ?_) 0 (Nat.zero_le _)
      refine V.iload_n E dX5_restore_28 rfl rfl ?_
      refine V.sipush (v := nI (151)) E dX5_restore_29 (by decide) ?_
      refine V.icmp_geN (tgt := 59) E (by omega) (by omega) dX5_restore_32 (by decide) (fun q_32 => ?_) (fun q_32 => ?_)
      · obtain rfl : i28 = 151 := by omega
        refine V.arr (f' := nA (fla y)) (ws' := (bl [mdW G a (fla y) g_23 sl sv r o k t m e w tx cl (hlN hl) tl sp rd])) 1 rfl (fun j hj => mxn_n j hj) rfl ?_
        refine V.aload_n E dX5_restore_59 rfl rfl ?_
        refine V.callV (C := RX5) E (c_X5_marked G a g_23 sl sv r o k t m e w tx cl (hlN hl) tl sp rd y ) (bl []) [] 0 5 rfl rfl rfl gX5_restore_X5_marked rfl ⟨rfl, hd_X5_marked⟩ ⟨⟨Nat.le_of_ble_eq_true rfl, Nat.le_of_ble_eq_true rfl⟩, Nat.le_of_ble_eq_true rfl, Nat.le_of_ble_eq_true rfl⟩ rfl (Nat.le_of_ble_eq_true rfl) rfl dX5_restore_60 (pBs (n := 1) [mdW G a (fla y) g_23 sl sv r o k t m e w tx cl (hlN hl) tl sp rd] [0] [] rfl (by decide)) (kc' := 0) (ks' := 0) rfl rfl (rwI (ws' := (bl [mdW G a (fla y) g_23 sl sv r o k t m e w tx cl (hlN hl) tl sp rd])) (pBs (n := 1) [mdW G a (fla y) g_23 sl sv r o k t m e w tx cl (hlN hl) tl sp rd] [0] [] rfl (by decide)).symm ?_)
        exact hend _ _ _ _ dX5_restore_63 (nrI _) ⟨g_23, rfl, rfl, hf_23⟩
      · refine V.aload_n E dX5_restore_35 rfl rfl ?_
        refine V.getf (C := RX5) (T := TX5) (N := 17) (ref := "GlassSpillModel") E 0 5 0 (by decide +kernel) rfl rfl (by decide) (by decide +kernel) rfl rfl dX5_restore_36 ?_
        refine V.iload_n E dX5_restore_39 rfl rfl ?_
        refine V.aload_n E dX5_restore_40 rfl rfl ?_
        refine V.getf (C := RX5) (T := TX5) (N := 17) (ref := "GlassSpillModel") E 0 5 3 (by decide +kernel) rfl rfl (by decide) (by decide +kernel) rfl rfl dX5_restore_41 ?_
        refine V.sipush (v := nI (151)) E dX5_restore_44 (by decide) ?_
        refine V.iload_n E dX5_restore_47 rfl rfl ?_
        refine V.imulN E  dX5_restore_48 ?_
        refine V.iload_n E dX5_restore_49 rfl rfl ?_
        refine V.iaddN E  dX5_restore_50 ?_
        refine V.ialdN (v := nI (fla y i28)) E 3 rfl (by omega) (by decide) (congrArg nI (hS i28 (by omega))) dX5_restore_51 ?_
        refine V.iastN (f' := nA (mxn (i28 + 1) (fla y) (fla x))) (ws' := (bl [mdW G a (mxn (i28 + 1) (fla y) (fla x)) g_23 sl sv r o k t m e w tx cl (hlN hl) tl sp rd])) E 1 rfl (by omega) (by decide) dX5_restore_52 (fun j _ => mxn_u rfl j) rfl ?_
        refine V.iincN (lv' := [some (.ref (a 0)), some (.int (nI (s_))), some (.int (nI (i28 + 1)))]) E dX5_restore_53 rfl (Nat.le_of_ble_eq_true rfl) rfl rfl ?_
        refine V.goto (tgt := 28) E dX5_restore_56 (by decide) ?_
        exact ih_28 (by omega)
    · exact absurd (hs.symm.trans q_16) (by decide)
  · exact absurd ((okI_n hp (by omega)).symm.trans q_4) (by decide)
abbrev rm_c_X5_wipe : Room := { frames := 0, cells := 0, slots := 0, locals := 0 }
theorem hd_X5_wipe : yX5_wipe.cls ≠ "java/lang/invoke/MethodHandle" ∧ yX5_wipe.cls ≠ "java/lang/invoke/VarHandle" ∧ (parseMethodDescriptor yX5_wipe.desc).map (fun d => d.parameters.length) = some 0 := by decide +kernel
set_option maxRecDepth 100000 in
set_option maxHeartbeats 8000000 in
theorem c_X5_wipe (G : VC) (a : Nat → Nat) (hi : Nat → Nat) (sl : Nat → Nat) (sv : Nat → Nat) (r : Nat → Nat) (o : Nat → Nat) (k : Nat → Nat) (t : Nat → Nat) (m : Nat → Nat) (e : Nat → Nat) (w : Nat → Nat) (tx : Nat → Nat) (cl : Nat → Int32) (hl : Nat) (tl : Nat) (sp : Nat) (rd : Nat) (x : SC) : Ctr yX5_wipe wsX5_wipe rm_c_X5_wipe G [.ref (a 0)] (bl [mdW G a (fla x) hi sl sv r o k t m e w tx cl hl tl sp rd]) (fun v9_ u9_ => u9_ = (bl [mdW G a (fla x) hi sl sv r o k t m e w tx cl hl 0 sp rd]) ∧ v9_ = some (.int (nI (tl)))) := by
  refine Ctr.int (cc := cX5_wipe) (maxL := 2) (ret := (some .int)) (lv0 := [some (.ref (a 0)), none]) (by decide) rfl rfl rfl (Nat.le_of_ble_eq_true rfl) rfl (fun A X E hend => ?_)
  refine V.aload_n E dX5_wipe_0 rfl rfl ?_
  refine V.getf (C := RX5) (T := TX5) (N := 17) (ref := "GlassSpillModel") E 0 5 13 (by decide +kernel) rfl rfl (by decide) (by decide +kernel) rfl rfl dX5_wipe_1 ?_
  refine V.istore_n (lv' := [some (.ref (a 0)), some (.int (nI (tl)))]) E dX5_wipe_4 rfl (Nat.le_of_ble_eq_true rfl) rfl rfl ?_
  refine V.aload_n E dX5_wipe_5 rfl rfl ?_
  refine V.iconst (v := nI (0)) E dX5_wipe_6 (by decide) ?_
  refine V.putf (C := RX5) (T := TX5) (N := 17) (ref := "GlassSpillModel") (ws' := (bl [mdW G a (fla x) hi sl sv r o k t m e w tx cl hl 0 sp rd])) E 0 5 13 (by decide +kernel) tyX5_ok nmX5 rfl rfl (by decide) (by decide +kernel) rfl rfl rfl rfl (Nat.le_of_ble_eq_true rfl) dX5_wipe_7 rfl ?_
  refine V.iload_n E dX5_wipe_10 rfl rfl ?_
  exact hend _ _ _ _ dX5_wipe_11 (nrI _) ⟨rfl, rfl⟩
