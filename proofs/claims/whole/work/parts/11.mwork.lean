/-! the reference: what is worked out of a scene -/
theorem mb_eq {p w : Nat} (hp : p < 48) (h : mbI p w = -6) : nbOK p (wy w) = false := by
  cases e : nbOK p (wy w) with
  | false => rfl
  | true =>
    rw [mbI_t e] at h
    have h2 := okI_n (n := 48) (nbP_lt hp e) (by have := nbP_lt hp e; omega)
    rw [h] at h2
    exact absurd h2 (by decide)
theorem mb_ne {p w : Nat} (h : ¬ mbI p w = -6) : nbOK p (wy w) = true := by
  cases e : nbOK p (wy w) with
  | true => rfl
  | false => exact absurd (mbI_f e) h
theorem nbHas_wy (o : Nat → Nat) (p v : Nat) : anyN 4 (fun w => nbOK p (wy w) && decide (o (nbP p (wy w)) = v)) = nbHas o p v := by
  rw [Bool.eq_iff_iff]
  unfold nbHas
  rw [anyN_t, anyN_t]
  constructor
  · rintro ⟨w, hw, h⟩
    exact ⟨wy w, wy_lt hw, h⟩
  · rintro ⟨k, hk, h⟩
    exact ⟨wy k, wy_lt hk, by rw [wy_wy hk]; exact h⟩
def eS (r : Nat → Nat) (j : Nat) : Nat := bN (decide (r j < 16) && edge j)
abbrev YT : Type := Bool × (Nat → Nat)
def mCl (r e : Nat → Nat) (k : Nat) : Prop := r (k / 4) < 16 → nbOK (k / 4) (wy (k % 4)) = true → e (nbP (k / 4) (wy (k % 4))) = 1 → e (k / 4) = 1
def mOK (r e : Nat → Nat) : Prop := (∀ j, j < 48 → e j ≤ 1) ∧ (∀ j, j < 48 → e j = 1 → Opn r j) ∧ (∀ p, p < 48 → edge p = true → r p < 16 → e p = 1)
def OI (r : Nat → Nat) (y : YT) : Prop := mOK r y.2 ∧ (y.1 = false → ∀ k, k < 192 → mCl r y.2 k)
def IJ (r : Nat → Nat) (y : YT) (k : Nat) (u : YT) : Prop := mOK r u.2 ∧ ((u.1 = false ∧ u.2 = y.2 ∧ ∀ k', k' < k → mCl r y.2 k') ∨ (u.1 = true ∧ sumN 48 y.2 < sumN 48 u.2))
theorem OI.start (r : Nat → Nat) : OI r (true, eS r) := by
  refine ⟨⟨fun j _ => bN_le _, fun j hj h => ?_, fun p hp he hr => ?_⟩, fun h => absurd h (by show ¬ true = false; decide)⟩
  · have h : bN (decide (r j < 16) && edge j) = 1 := h
    cases hb : (decide (r j < 16) && edge j) with
    | false => rw [hb] at h; exact absurd h (by decide)
    | true =>
      rw [Bool.and_eq_true, decide_eq_true_eq] at hb
      exact Opn.atE hb.1 hb.2
  · show bN (decide (r p < 16) && edge p) = 1
    rw [decide_eq_true hr, he]; rfl
theorem OI.fin {r : Nat → Nat} {y : YT} (h : OI r y) (hy : y.1 = false) : ∀ p, p < 48 → y.2 p ≤ 1 ∧ (y.2 p = 1 ↔ Opn r p) := by
  intro p hp
  obtain ⟨⟨h1, h2, h3⟩, h4⟩ := h
  refine ⟨h1 p hp, h2 p hp, fun ho => ?_⟩
  refine Opn.ind (r := r) (S := fun p => y.2 p = 1) (fun p hp hr e => h3 p hp e hr) (fun p k hp hk hr hok hS => ?_) p hp ho
  have hc := h4 hy (4 * p + wy k) (by have := wy_lt hk; omega)
  have e1 : (4 * p + wy k) / 4 = p := by have := wy_lt hk; omega
  have e2 : (4 * p + wy k) % 4 = wy k := by have := wy_lt hk; omega
  unfold mCl at hc
  rw [e1, e2, wy_wy hk] at hc
  exact hc hr hok hS
theorem IJ.skip {r : Nat → Nat} {y u : YT} {k : Nat} (h : IJ r y k u) (hc : mCl r u.2 k) : IJ r y (k + 1) u := by
  obtain ⟨h1, h2⟩ := h
  refine ⟨h1, ?_⟩
  rcases h2 with ⟨a, b, c⟩ | h2
  · refine Or.inl ⟨a, b, fun k' hk' => ?_⟩
    rcases Nat.lt_succ_iff_lt_or_eq.mp hk' with h | h
    · exact c k' h
    · rw [h, ← b]; exact hc
  · exact Or.inr h2
theorem IJ.put {r : Nat → Nat} {y u : YT} {k : Nat} (h : IJ r y k u) (hk : k < 192) (h1 : r (k / 4) < 16) (h2 : u.2 (k / 4) = 0) (h3 : nbOK (k / 4) (wy (k % 4)) = true) (h4 : u.2 (nbP (k / 4) (wy (k % 4))) = 1) : IJ r y (k + 1) (true, upN u.2 (k / 4) 1) := by
  obtain ⟨⟨a1, a2, a3⟩, hh⟩ := h
  have hp : k / 4 < 48 := by omega
  have hs := sumN_up (f := u.2) (k := k / 4) (v := 1) (n := 48) hp
  refine ⟨⟨fun j hj => ?_, fun j hj he => ?_, fun p hp2 he hr => ?_⟩, Or.inr ⟨rfl, ?_⟩⟩
  · show upN u.2 (k / 4) 1 j ≤ 1
    unfold upN
    split
    · omega
    · exact a1 j hj
  · by_cases e : j = k / 4
    · rw [e]; exact Opn.step h1 (wy_lt (Nat.mod_lt _ (by decide))) h3 (a2 _ (nbP_lt hp h3) h4)
    · have he : upN u.2 (k / 4) 1 j = 1 := he
      rw [upN_n e] at he
      exact a2 j hj he
  · show upN u.2 (k / 4) 1 p = 1
    unfold upN
    split
    · rfl
    · exact a3 p hp2 he hr
  · show sumN 48 y.2 < sumN 48 (upN u.2 (k / 4) 1)
    rcases hh with ⟨_, b, _⟩ | ⟨_, b⟩
    · rw [← b]; omega
    · omega
def muY (y : YT) : Nat := (48 - sumN 48 y.2) + bN y.1
theorem IJ.fin {r : Nat → Nat} {y u : YT} (h : IJ r y 192 u) (hy : y.1 = true) : muY u < muY y ∧ OI r u := by
  obtain ⟨h1, h2⟩ := h
  have hl := sumN_le (n := 48) (f := u.2) (b := 1) h1.1
  unfold muY
  rcases h2 with ⟨a, b, c⟩ | ⟨a, b⟩
  · refine ⟨?_, h1, fun _ => by rw [b]; exact c⟩
    rw [a, b, hy, bN_f rfl, bN_t rfl]; omega
  · refine ⟨?_, h1, fun e => absurd (a.symm.trans e) (by decide)⟩
    rw [a, hy]; omega
theorem opq_o {x : SC} {p : Nat} (h : Opn (rawF x) p) : rawF x p = opqF x p := by unfold opqF; rw [if_neg (fun q => q.2 h)]
theorem opq_c {x : SC} {p : Nat} (h5 : scS x 5 = 1) (h : ¬ Opn (rawF x) p) : 16 = opqF x p := by unfold opqF; rw [if_pos ⟨h5, h⟩]
abbrev rm_c_X5_isBeside : Room := { frames := 2, cells := 0, slots := 0, locals := 48 }
theorem hd_X5_isBeside : yX5_isBeside.cls ≠ "java/lang/invoke/MethodHandle" ∧ yX5_isBeside.cls ≠ "java/lang/invoke/VarHandle" ∧ (parseMethodDescriptor yX5_isBeside.desc).map (fun d => d.parameters.length) = some 2 := by decide +kernel
set_option maxRecDepth 100000 in
set_option maxHeartbeats 8000000 in
theorem c_X5_isBeside (G : VC) (a : Nat → Nat) (al : Nat → Nat) (hi : Nat → Nat) (sl : Nat → Nat) (sv : Nat → Nat) (r : Nat → Nat) (o : Nat → Nat) (k : Nat → Nat) (t : Nat → Nat) (m : Nat → Nat) (e : Nat → Nat) (w : Nat → Nat) (tx : Nat → Nat) (cl : Nat → Int32) (hl : Nat) (tl : Nat) (sp : Nat) (rd : Nat) (p : Nat) (v : Nat) (hp : p < 48) (hv2 : v ≤ 16) (ho : ∀ j, j < 48 → o j ≤ 16) : Ctr yX5_isBeside wsX5_isBeside rm_c_X5_isBeside G [.ref (a 0), .int (nI (p)), .int (nI (v))] (bl [mdW G a al hi sl sv r o k t m e w tx cl hl tl sp rd]) (fun v9_ u9_ => u9_ = (bl [mdW G a al hi sl sv r o k t m e w tx cl hl tl sp rd]) ∧ v9_ = some (.int (nI (bN (nbHas o p v))))) := by
  refine Ctr.int (cc := cX5_isBeside) (maxL := 6) (ret := (some .boolean)) (lv0 := [some (.ref (a 0)), some (.int (nI (p))), some (.int (nI (v))), none, none, none]) (by decide) rfl rfl rfl (Nat.le_of_ble_eq_true rfl) rfl (fun A X E hend => ?_)
  refine V.iconst (v := nI (0)) E dX5_isBeside_0 (by decide) ?_
  refine V.istore_n (lv' := [some (.ref (a 0)), some (.int (nI (p))), some (.int (nI (v))), some (.int (nI (0))), none, none]) E dX5_isBeside_1 rfl (Nat.le_of_ble_eq_true rfl) rfl rfl ?_
  refine V.iconst (v := nI (0)) E dX5_isBeside_2 (by decide) ?_
  refine V.istore (lv' := [some (.ref (a 0)), some (.int (nI (p))), some (.int (nI (v))), some (.int (nI (0))), some (.int (nI (0))), none]) E dX5_isBeside_3 (Nat.le_of_ble_eq_true rfl) rfl rfl ?_
  refine V.locN (b := bN (anyN 0 (fun w => nbOK p (wy w) && decide (o (nbP p (wy w)) = v)))) (lv' := [some (.ref (a 0)), some (.int (nI (p))), some (.int (nI (v))), some (.int (nI (bN (anyN 0 (fun w => nbOK p (wy w) && decide (o (nbP p (wy w)) = v)))))), some (.int (nI (0))), none]) 3 (rfl) rfl rfl ?_
  refine loopN (P := fun i5 => V G A X rm_c_X5_isBeside (bl [mdW G a al hi sl sv r o k t m e w tx cl hl tl sp rd]) 0 0 5 [some (.ref (a 0)), some (.int (nI (p))), some (.int (nI (v))), some (.int (nI (bN (anyN i5 (fun w => nbOK p (wy w) && decide (o (nbP p (wy w)) = v)))))), some (.int (nI (i5))), none] []) 4 (fun i5 hi_5 ih_5 => ?_) 0 (Nat.zero_le _)
  refine V.iload E dX5_isBeside_5 rfl ?_
  refine V.iconst (v := nI (4)) E dX5_isBeside_7 (by decide) ?_
  refine V.icmp_geN (tgt := 53) E (by omega) (by omega) dX5_isBeside_8 (by decide) (fun q_8 => ?_) (fun q_8 => ?_)
  · obtain rfl : i5 = 4 := by omega
    refine V.iload_n E dX5_isBeside_53 rfl rfl ?_
    refine V.topN (b := bN (nbHas o p v)) (congrArg bN (nbHas_wy o p v)) ?_
    exact hend _ _ _ _ dX5_isBeside_54 (nrB _) ⟨rfl, rfl⟩
  · refine V.iload_n E dX5_isBeside_11 rfl rfl ?_
    refine V.iload E dX5_isBeside_12 rfl ?_
    refine V.callS E (c_X5_beside G p i5 (by omega) (by omega)) (bl [mdW G a al hi sl sv r o k t m e w tx cl hl tl sp rd]) [] gX5_isBeside_X5_beside rfl hd_X5_beside ⟨⟨Nat.le_of_ble_eq_true rfl, Nat.le_of_ble_eq_true rfl⟩, Nat.le_of_ble_eq_true rfl, Nat.le_of_ble_eq_true rfl⟩ rfl (Nat.le_of_ble_eq_true rfl) rfl dX5_isBeside_14 (List.Perm.refl _) (kc' := 0) (ks' := 0) rfl rfl (rwI (ws' := (bl [mdW G a al hi sl sv r o k t m e w tx cl hl tl sp rd])) (List.Perm.refl _) ?_)
    refine V.istore (lv' := [some (.ref (a 0)), some (.int (nI (p))), some (.int (nI (v))), some (.int (nI (bN (anyN i5 (fun w => nbOK p (wy w) && decide (o (nbP p (wy w)) = v)))))), some (.int (nI (i5))), some (.int (mbI p i5))]) E dX5_isBeside_17 (Nat.le_of_ble_eq_true rfl) rfl rfl ?_
    refine V.iload_n E dX5_isBeside_19 rfl rfl ?_
    refine V.if_neB (tgt := 41) E dX5_isBeside_20 (by decide) (fun q_20 => ?_) (fun q_20 => ?_)
    · refine V.iconst (v := nI (1)) E dX5_isBeside_41 (by decide) ?_
      refine V.goto (tgt := 46) E dX5_isBeside_42 (by decide) ?_
      refine V.istore_n (lv' := [some (.ref (a 0)), some (.int (nI (p))), some (.int (nI (v))), some (.int (nI (1))), some (.int (nI (i5))), some (.int (mbI p i5))]) E dX5_isBeside_46 rfl (Nat.le_of_ble_eq_true rfl) rfl rfl ?_
      refine V.iincN (lv' := [some (.ref (a 0)), some (.int (nI (p))), some (.int (nI (v))), some (.int (nI (1))), some (.int (nI (i5 + 1))), some (.int (mbI p i5))]) E dX5_isBeside_47 rfl (Nat.le_of_ble_eq_true rfl) rfl rfl ?_
      refine V.goto (tgt := 5) E dX5_isBeside_50 (by decide) ?_
      refine V.drop (lv' := [some (.ref (a 0)), some (.int (nI (p))), some (.int (nI (v))), some (.int (nI (1))), some (.int (nI (i5 + 1))), none]) [true, true, true, true, true, false] rfl ?_
      refine V.locN (b := bN (anyN (i5 + 1) (fun w => nbOK p (wy w) && decide (o (nbP p (wy w)) = v)))) (lv' := [some (.ref (a 0)), some (.int (nI (p))), some (.int (nI (v))), some (.int (nI (bN (anyN (i5 + 1) (fun w => nbOK p (wy w) && decide (o (nbP p (wy w)) = v)))))), some (.int (nI (i5 + 1))), none]) 3 (by rw [anyN, q_20]; rfl) rfl rfl ?_
      exact ih_5 (by omega)
    · refine V.iload E dX5_isBeside_23 rfl ?_
      refine V.bipush (v := (-6 : Int32)) E dX5_isBeside_25 (by decide) ?_
      refine V.icmp_eq (tgt := 45) E dX5_isBeside_27 (by decide) (fun q_27 => ?_) (fun q_27 => ?_)
      · refine V.iconst (v := nI (0)) E dX5_isBeside_45 (by decide) ?_
        refine V.istore_n (lv' := [some (.ref (a 0)), some (.int (nI (p))), some (.int (nI (v))), some (.int (nI (0))), some (.int (nI (i5))), some (.int (mbI p i5))]) E dX5_isBeside_46 rfl (Nat.le_of_ble_eq_true rfl) rfl rfl ?_
        refine V.iincN (lv' := [some (.ref (a 0)), some (.int (nI (p))), some (.int (nI (v))), some (.int (nI (0))), some (.int (nI (i5 + 1))), some (.int (mbI p i5))]) E dX5_isBeside_47 rfl (Nat.le_of_ble_eq_true rfl) rfl rfl ?_
        refine V.goto (tgt := 5) E dX5_isBeside_50 (by decide) ?_
        refine V.drop (lv' := [some (.ref (a 0)), some (.int (nI (p))), some (.int (nI (v))), some (.int (nI (0))), some (.int (nI (i5 + 1))), none]) [true, true, true, true, true, false] rfl ?_
        refine V.locN (b := bN (anyN (i5 + 1) (fun w => nbOK p (wy w) && decide (o (nbP p (wy w)) = v)))) (lv' := [some (.ref (a 0)), some (.int (nI (p))), some (.int (nI (v))), some (.int (nI (bN (anyN (i5 + 1) (fun w => nbOK p (wy w) && decide (o (nbP p (wy w)) = v)))))), some (.int (nI (i5 + 1))), none]) 3 (by rw [anyN, q_20, mb_eq hp q_27]; rfl) rfl rfl ?_
        exact ih_5 (by omega)
      · have hn_ := mb_ne q_27
        have hp_ := nbP_lt hp hn_
        refine V.loc (y := nI (nbP p (wy i5))) (lv' := [some (.ref (a 0)), some (.int (nI (p))), some (.int (nI (v))), some (.int (nI (bN (anyN i5 (fun w => nbOK p (wy w) && decide (o (nbP p (wy w)) = v)))))), some (.int (nI (i5))), some (.int (nI (nbP p (wy i5))))]) 5 (mbI_t hn_) rfl rfl ?_
        refine V.aload_n E dX5_isBeside_30 rfl rfl ?_
        refine V.getf (C := RX5) (T := TX5) (N := 17) (ref := "GlassSpillModel") E 0 5 6 (by decide +kernel) rfl rfl (by decide) (by decide +kernel) rfl rfl dX5_isBeside_31 ?_
        refine V.iload E dX5_isBeside_34 rfl ?_
        refine V.ialdN (v := nI (o (nbP p (wy i5)))) E 6 rfl (by omega) (by decide) (rfl) dX5_isBeside_36 ?_
        refine V.iload_n E dX5_isBeside_37 rfl rfl ?_
        refine V.icmp_neN (tgt := 45) E (Nat.lt_of_le_of_lt (ho _ hp_) (by decide)) (by omega) dX5_isBeside_38 (by decide) (fun q_38 => ?_) (fun q_38 => ?_)
        · refine V.iconst (v := nI (0)) E dX5_isBeside_45 (by decide) ?_
          refine V.istore_n (lv' := [some (.ref (a 0)), some (.int (nI (p))), some (.int (nI (v))), some (.int (nI (0))), some (.int (nI (i5))), some (.int (nI (nbP p (wy i5))))]) E dX5_isBeside_46 rfl (Nat.le_of_ble_eq_true rfl) rfl rfl ?_
          refine V.iincN (lv' := [some (.ref (a 0)), some (.int (nI (p))), some (.int (nI (v))), some (.int (nI (0))), some (.int (nI (i5 + 1))), some (.int (nI (nbP p (wy i5))))]) E dX5_isBeside_47 rfl (Nat.le_of_ble_eq_true rfl) rfl rfl ?_
          refine V.goto (tgt := 5) E dX5_isBeside_50 (by decide) ?_
          refine V.drop (lv' := [some (.ref (a 0)), some (.int (nI (p))), some (.int (nI (v))), some (.int (nI (0))), some (.int (nI (i5 + 1))), none]) [true, true, true, true, true, false] rfl ?_
          refine V.locN (b := bN (anyN (i5 + 1) (fun w => nbOK p (wy w) && decide (o (nbP p (wy w)) = v)))) (lv' := [some (.ref (a 0)), some (.int (nI (p))), some (.int (nI (v))), some (.int (nI (bN (anyN (i5 + 1) (fun w => nbOK p (wy w) && decide (o (nbP p (wy w)) = v)))))), some (.int (nI (i5 + 1))), none]) 3 (by rw [anyN, q_20]; simp [q_38, bN]) rfl rfl ?_
          exact ih_5 (by omega)
        · refine V.iconst (v := nI (1)) E dX5_isBeside_41 (by decide) ?_
          refine V.goto (tgt := 46) E dX5_isBeside_42 (by decide) ?_
          refine V.istore_n (lv' := [some (.ref (a 0)), some (.int (nI (p))), some (.int (nI (v))), some (.int (nI (1))), some (.int (nI (i5))), some (.int (nI (nbP p (wy i5))))]) E dX5_isBeside_46 rfl (Nat.le_of_ble_eq_true rfl) rfl rfl ?_
          refine V.iincN (lv' := [some (.ref (a 0)), some (.int (nI (p))), some (.int (nI (v))), some (.int (nI (1))), some (.int (nI (i5 + 1))), some (.int (nI (nbP p (wy i5))))]) E dX5_isBeside_47 rfl (Nat.le_of_ble_eq_true rfl) rfl rfl ?_
          refine V.goto (tgt := 5) E dX5_isBeside_50 (by decide) ?_
          refine V.drop (lv' := [some (.ref (a 0)), some (.int (nI (p))), some (.int (nI (v))), some (.int (nI (1))), some (.int (nI (i5 + 1))), none]) [true, true, true, true, true, false] rfl ?_
          refine V.locN (b := bN (anyN (i5 + 1) (fun w => nbOK p (wy w) && decide (o (nbP p (wy w)) = v)))) (lv' := [some (.ref (a 0)), some (.int (nI (p))), some (.int (nI (v))), some (.int (nI (bN (anyN (i5 + 1) (fun w => nbOK p (wy w) && decide (o (nbP p (wy w)) = v)))))), some (.int (nI (i5 + 1))), none]) 3 (by rw [anyN, q_20]; simp [hn_, q_38, bN]) rfl rfl ?_
          exact ih_5 (by omega)
abbrev rm_c_X5_kindOf : Room := { frames := 3, cells := 0, slots := 0, locals := 73 }
theorem hd_X5_kindOf : yX5_kindOf.cls ≠ "java/lang/invoke/MethodHandle" ∧ yX5_kindOf.cls ≠ "java/lang/invoke/VarHandle" ∧ (parseMethodDescriptor yX5_kindOf.desc).map (fun d => d.parameters.length) = some 1 := by decide +kernel
set_option maxRecDepth 100000 in
set_option maxHeartbeats 8000000 in
theorem c_X5_kindOf (G : VC) (a : Nat → Nat) (hi : Nat → Nat) (sl : Nat → Nat) (sv : Nat → Nat) (r : Nat → Nat) (o : Nat → Nat) (k : Nat → Nat) (t : Nat → Nat) (m : Nat → Nat) (e : Nat → Nat) (w : Nat → Nat) (tx : Nat → Nat) (cl : Nat → Int32) (hl : Nat) (tl : Nat) (sp : Nat) (rd : Nat) (x : SC) (p : Nat) (hx : SInv x) (hp : p < 48) (ho : ∀ j, j < 48 → o j ≤ 16) : Ctr yX5_kindOf wsX5_kindOf rm_c_X5_kindOf G [.ref (a 0), .int (nI (p))] (bl [mdW G a (fla x) hi sl sv r o k t m e w tx cl hl tl sp rd]) (fun v9_ u9_ => u9_ = (bl [mdW G a (fla x) hi sl sv r o k t m e w tx cl hl tl sp rd]) ∧ v9_ = some (.int (nI (kndG x o p)))) := by
  refine Ctr.int (cc := cX5_kindOf) (maxL := 2) (ret := (some .int)) (lv0 := [some (.ref (a 0)), some (.int (nI (p)))]) (by decide) rfl rfl rfl (Nat.le_of_ble_eq_true rfl) rfl (fun A X E hend => ?_)
  refine V.aload_n E dX5_kindOf_0 rfl rfl ?_
  refine V.getf (C := RX5) (T := TX5) (N := 17) (ref := "GlassSpillModel") E 0 5 0 (by decide +kernel) rfl rfl (by decide) (by decide +kernel) rfl rfl dX5_kindOf_1 ?_
  refine V.bipush (v := nI (103)) E dX5_kindOf_4 (by decide) ?_
  refine V.iload_n E dX5_kindOf_6 rfl rfl ?_
  refine V.iaddN E  dX5_kindOf_7 ?_
  refine V.ialdN (v := nI (scG x p)) E 1 rfl (by omega) (by decide) (congrArg nI (fla_G _ (by omega))) dX5_kindOf_8 ?_
  refine V.iconst (v := nI (1)) E dX5_kindOf_9 (by decide) ?_
  refine V.icmp_neN (tgt := 17) E (Nat.lt_of_le_of_lt (hx.g p hp) (by decide)) (by omega) dX5_kindOf_10 (by decide) (fun q_10 => ?_) (fun q_10 => ?_)
  · refine V.aload_n E dX5_kindOf_17 rfl rfl ?_
    refine V.getf (C := RX5) (T := TX5) (N := 17) (ref := "GlassSpillModel") E 0 5 6 (by decide +kernel) rfl rfl (by decide) (by decide +kernel) rfl rfl dX5_kindOf_18 ?_
    refine V.iload_n E dX5_kindOf_21 rfl rfl ?_
    refine V.ialdN (v := nI (o p)) E 6 rfl (by omega) (by decide) (rfl) dX5_kindOf_22 ?_
    refine V.if_neN (tgt := 30) E ((Nat.lt_of_le_of_lt (ho p hp) (by decide))) dX5_kindOf_23 (by decide) (fun q_23 => ?_) (fun q_23 => ?_)
    · refine V.aload_n E dX5_kindOf_30 rfl rfl ?_
      refine V.getf (C := RX5) (T := TX5) (N := 17) (ref := "GlassSpillModel") E 0 5 6 (by decide +kernel) rfl rfl (by decide) (by decide +kernel) rfl rfl dX5_kindOf_31 ?_
      refine V.iload_n E dX5_kindOf_34 rfl rfl ?_
      refine V.ialdN (v := nI (o p)) E 6 rfl (by omega) (by decide) (rfl) dX5_kindOf_35 ?_
      refine V.bipush (v := nI (16)) E dX5_kindOf_36 (by decide) ?_
      refine V.icmp_neN (tgt := 45) E (Nat.lt_of_le_of_lt (ho p hp) (by decide)) (by omega) dX5_kindOf_38 (by decide) (fun q_38 => ?_) (fun q_38 => ?_)
      · refine V.aload_n E dX5_kindOf_45 rfl rfl ?_
        refine V.iload_n E dX5_kindOf_46 rfl rfl ?_
        refine V.bipush (v := nI (16)) E dX5_kindOf_47 (by decide) ?_
        refine V.callV (C := RX5) E (c_X5_isBeside G a (fla x) hi sl sv r o k t m e w tx cl hl tl sp rd p 16 (hp) (by omega) (ho)) (bl []) [] 0 5 rfl rfl rfl gX5_kindOf_X5_isBeside rfl ⟨rfl, hd_X5_isBeside⟩ ⟨⟨Nat.le_of_ble_eq_true rfl, Nat.le_of_ble_eq_true rfl⟩, Nat.le_of_ble_eq_true rfl, Nat.le_of_ble_eq_true rfl⟩ rfl (Nat.le_of_ble_eq_true rfl) rfl dX5_kindOf_49 (pBs (n := 1) [mdW G a (fla x) hi sl sv r o k t m e w tx cl hl tl sp rd] [0] [] rfl (by decide)) (kc' := 0) (ks' := 0) rfl rfl (rwI (ws' := (bl [mdW G a (fla x) hi sl sv r o k t m e w tx cl hl tl sp rd])) (pBs (n := 1) [mdW G a (fla x) hi sl sv r o k t m e w tx cl hl tl sp rd] [0] [] rfl (by decide)).symm ?_)
        refine V.if_eqB (tgt := 68) E dX5_kindOf_52 (by decide) (fun q_52 => ?_) (fun q_52 => ?_)
        · refine V.iconst (v := nI (1)) E dX5_kindOf_68 (by decide) ?_
          refine V.topN (b := kndG x o p) (by unfold kndG knU; rw [if_neg q_10, if_neg q_23, if_neg q_38, if_neg (by rw [q_52]; simp)]) ?_
          exact hend _ _ _ _ dX5_kindOf_69 (nrI _) ⟨rfl, rfl⟩
        · refine V.aload_n E dX5_kindOf_55 rfl rfl ?_
          refine V.iload_n E dX5_kindOf_56 rfl rfl ?_
          refine V.iconst (v := nI (0)) E dX5_kindOf_57 (by decide) ?_
          refine V.callV (C := RX5) E (c_X5_isBeside G a (fla x) hi sl sv r o k t m e w tx cl hl tl sp rd p 0 (hp) (by omega) (ho)) (bl []) [] 0 5 rfl rfl rfl gX5_kindOf_X5_isBeside rfl ⟨rfl, hd_X5_isBeside⟩ ⟨⟨Nat.le_of_ble_eq_true rfl, Nat.le_of_ble_eq_true rfl⟩, Nat.le_of_ble_eq_true rfl, Nat.le_of_ble_eq_true rfl⟩ rfl (Nat.le_of_ble_eq_true rfl) rfl dX5_kindOf_58 (pBs (n := 1) [mdW G a (fla x) hi sl sv r o k t m e w tx cl hl tl sp rd] [0] [] rfl (by decide)) (kc' := 0) (ks' := 0) rfl rfl (rwI (ws' := (bl [mdW G a (fla x) hi sl sv r o k t m e w tx cl hl tl sp rd])) (pBs (n := 1) [mdW G a (fla x) hi sl sv r o k t m e w tx cl hl tl sp rd] [0] [] rfl (by decide)).symm ?_)
          refine V.if_eqB (tgt := 68) E dX5_kindOf_61 (by decide) (fun q_61 => ?_) (fun q_61 => ?_)
          · refine V.iconst (v := nI (1)) E dX5_kindOf_68 (by decide) ?_
            refine V.topN (b := kndG x o p) (by unfold kndG knU; rw [if_neg q_10, if_neg q_23, if_neg q_38, if_neg (by rw [q_52, q_61]; decide)]) ?_
            exact hend _ _ _ _ dX5_kindOf_69 (nrI _) ⟨rfl, rfl⟩
          · refine V.iconst (v := nI (2)) E dX5_kindOf_64 (by decide) ?_
            refine V.goto (tgt := 69) E dX5_kindOf_65 (by decide) ?_
            refine V.topN (b := kndG x o p) (by unfold kndG knU; rw [if_neg q_10, if_neg q_23, if_neg q_38, if_pos (by rw [q_52, q_61]; rfl)]) ?_
            exact hend _ _ _ _ dX5_kindOf_69 (nrI _) ⟨rfl, rfl⟩
      · refine V.iconst (v := nI (3)) E dX5_kindOf_41 (by decide) ?_
        refine V.goto (tgt := 69) E dX5_kindOf_42 (by decide) ?_
        refine V.topN (b := kndG x o p) (by unfold kndG knU; rw [if_neg q_10, if_neg q_23, if_pos q_38]) ?_
        exact hend _ _ _ _ dX5_kindOf_69 (nrI _) ⟨rfl, rfl⟩
    · refine V.iconst (v := nI (0)) E dX5_kindOf_26 (by decide) ?_
      refine V.goto (tgt := 69) E dX5_kindOf_27 (by decide) ?_
      refine V.topN (b := kndG x o p) (by unfold kndG knU; rw [if_neg q_10, if_pos q_23]) ?_
      exact hend _ _ _ _ dX5_kindOf_69 (nrI _) ⟨rfl, rfl⟩
  · refine V.iconst (v := nI (4)) E dX5_kindOf_13 (by decide) ?_
    refine V.goto (tgt := 69) E dX5_kindOf_14 (by decide) ?_
    refine V.topN (b := kndG x o p) (by unfold kndG; rw [if_pos q_10]) ?_
    exact hend _ _ _ _ dX5_kindOf_69 (nrI _) ⟨rfl, rfl⟩
abbrev rm_c_X5_opens : Room := { frames := 2, cells := 0, slots := 0, locals := 48 }
theorem hd_X5_opens : yX5_opens.cls ≠ "java/lang/invoke/MethodHandle" ∧ yX5_opens.cls ≠ "java/lang/invoke/VarHandle" ∧ (parseMethodDescriptor yX5_opens.desc).map (fun d => d.parameters.length) = some 0 := by decide +kernel
set_option maxRecDepth 100000 in
set_option maxHeartbeats 8000000 in
theorem c_X5_opens (G : VC) (a : Nat → Nat) (al : Nat → Nat) (hi : Nat → Nat) (sl : Nat → Nat) (sv : Nat → Nat) (r : Nat → Nat) (o : Nat → Nat) (k : Nat → Nat) (t : Nat → Nat) (m : Nat → Nat) (e : Nat → Nat) (w : Nat → Nat) (tx : Nat → Nat) (cl : Nat → Int32) (hl : Nat) (tl : Nat) (sp : Nat) (rd : Nat) (hr : ∀ j, j < 48 → r j ≤ 16) : Ctr yX5_opens wsX5_opens rm_c_X5_opens G [.ref (a 0)] (bl [mdW G a al hi sl sv r o k t m e w tx cl hl tl sp rd]) (fun v9_ u9_ => ∃ ge : Nat → Nat, u9_ = (bl [mdW G a al hi sl sv r o k t m ge w tx cl hl tl sp rd]) ∧ v9_ = none ∧ (∀ p, p < 48 → ge p ≤ 1 ∧ (ge p = 1 ↔ Opn r p))) := by
  refine Ctr.void (cc := cX5_opens) (maxL := 5) (lv0 := [some (.ref (a 0)), none, none, none, none]) (by decide) rfl rfl rfl (Nat.le_of_ble_eq_true rfl) (fun A X E hinit hend => ?_)
  refine V.iconst (v := nI (0)) E dX5_opens_0 (by decide) ?_
  refine V.istore_n (lv' := [some (.ref (a 0)), some (.int (nI (0))), none, none, none]) E dX5_opens_1 rfl (Nat.le_of_ble_eq_true rfl) rfl rfl ?_
  refine V.arr (f' := nA (mxn 0 (eS r) e)) (ws' := (bl [mdW G a al hi sl sv r o k t m (mxn 0 (eS r) e) w tx cl hl tl sp rd])) 10 rfl (fun j _ => mxn_0 j) rfl ?_
  refine loopN (P := fun i2 => V G A X rm_c_X5_opens (bl [mdW G a al hi sl sv r o k t m (mxn i2 (eS r) e) w tx cl hl tl sp rd]) 0 0 2 [some (.ref (a 0)), some (.int (nI (i2))), none, none, none] []) 48 (fun i2 hi_2 ih_2 => ?_) 0 (Nat.zero_le _)
  refine V.iload_n E dX5_opens_2 rfl rfl ?_
  refine V.bipush (v := nI (48)) E dX5_opens_3 (by decide) ?_
  refine V.icmp_geN (tgt := 43) E (by omega) (by omega) dX5_opens_5 (by decide) (fun q_5 => ?_) (fun q_5 => ?_)
  · obtain rfl : i2 = 48 := by omega
    refine V.arr (f' := nA (eS r)) (ws' := (bl [mdW G a al hi sl sv r o k t m (eS r) w tx cl hl tl sp rd])) 10 rfl (fun j hj => mxn_n j hj) rfl ?_
    refine V.iconst (v := nI (1)) E dX5_opens_43 (by decide) ?_
    refine V.istore_n (lv' := [some (.ref (a 0)), some (.int (nI (1))), none, none, none]) E dX5_opens_44 rfl (Nat.le_of_ble_eq_true rfl) rfl rfl ?_
    show V G A X rm_c_X5_opens (bl [mdW G a al hi sl sv r o k t m (((true, eS r)).2) w tx cl hl tl sp rd]) 0 0 45 [some (.ref (a 0)), some (.int (nI (bN ((true, eS r)).1))), none, none, none] []
    refine loopM (P := fun y : YT => (OI r y) → V G A X rm_c_X5_opens (bl [mdW G a al hi sl sv r o k t m y.2 w tx cl hl tl sp rd]) 0 0 45 [some (.ref (a 0)), some (.int (nI (bN y.1))), none, none, none] []) (muY) (fun y ih_45 hg_45 => ?_) ((true, eS r)) (OI.start r)
    refine V.iload_n E dX5_opens_45 rfl rfl ?_
    refine V.if_eqB (tgt := 129) E dX5_opens_46 (by decide) (fun q_46 => ?_) (fun q_46 => ?_)
    · exact hend _ _ _ dX5_opens_129 ⟨y.2, rfl, rfl, OI.fin hg_45 q_46⟩
    · refine V.iconst (v := nI (0)) E dX5_opens_49 (by decide) ?_
      refine V.istore_n (lv' := [some (.ref (a 0)), some (.int (nI (0))), none, none, none]) E dX5_opens_50 rfl (Nat.le_of_ble_eq_true rfl) rfl rfl ?_
      refine V.iconst (v := nI (0)) E dX5_opens_51 (by decide) ?_
      refine V.istore_n (lv' := [some (.ref (a 0)), some (.int (nI (0))), some (.int (nI (0))), none, none]) E dX5_opens_52 rfl (Nat.le_of_ble_eq_true rfl) rfl rfl ?_
      refine V.locN (b := bN ((false, y.2)).1) (lv' := [some (.ref (a 0)), some (.int (nI (bN ((false, y.2)).1))), some (.int (nI (0))), none, none]) 1 (rfl) rfl rfl ?_
      show V G A X rm_c_X5_opens (bl [mdW G a al hi sl sv r o k t m (((false, y.2)).2) w tx cl hl tl sp rd]) 0 0 53 [some (.ref (a 0)), some (.int (nI (bN ((false, y.2)).1))), some (.int (nI (0))), none, none] []
      refine loopN (P := fun i53 => ∀ u : YT, (IJ r y i53 u) → V G A X rm_c_X5_opens (bl [mdW G a al hi sl sv r o k t m u.2 w tx cl hl tl sp rd]) 0 0 53 [some (.ref (a 0)), some (.int (nI (bN u.1))), some (.int (nI (i53))), none, none] []) 192 (fun i53 hi_53 ih_53 u hg_53 => ?_) 0 (Nat.zero_le _) ((false, y.2)) (⟨hg_45.1, Or.inl ⟨rfl, rfl, fun k hk => absurd hk (Nat.not_lt_zero k)⟩⟩)
      refine V.iload_n E dX5_opens_53 rfl rfl ?_
      refine V.sipush (v := nI (192)) E dX5_opens_54 (by decide) ?_
      refine V.icmp_geN (tgt := 126) E (by omega) (by omega) dX5_opens_57 (by decide) (fun q_57 => ?_) (fun q_57 => ?_)
      · obtain rfl : i53 = 192 := by omega
        refine V.goto (tgt := 45) E dX5_opens_126 (by decide) ?_
        refine V.drop (lv' := [some (.ref (a 0)), some (.int (nI (bN u.1))), none, none, none]) [true, true, false, true, true] rfl ?_
        exact ih_45 u ((IJ.fin hg_53 q_46).1) ((IJ.fin hg_53 q_46).2)
      · refine V.iload_n E dX5_opens_60 rfl rfl ?_
        refine V.iconst (v := nI (4)) E dX5_opens_61 (by decide) ?_
        refine V.idivN E (by omega) (by omega) (by omega) dX5_opens_62 ?_
        refine V.istore_n (lv' := [some (.ref (a 0)), some (.int (nI (bN u.1))), some (.int (nI (i53))), some (.int (nI (i53 / 4))), none]) E dX5_opens_63 rfl (Nat.le_of_ble_eq_true rfl) rfl rfl ?_
        refine V.iload_n E dX5_opens_64 rfl rfl ?_
        refine V.iload_n E dX5_opens_65 rfl rfl ?_
        refine V.iconst (v := nI (4)) E dX5_opens_66 (by decide) ?_
        refine V.iremN E (by omega) (by omega) (by omega) dX5_opens_67 ?_
        refine V.callS E (c_X5_beside G (i53 / 4) (i53 % 4) (by omega) (by omega)) (bl [mdW G a al hi sl sv r o k t m u.2 w tx cl hl tl sp rd]) [] gX5_opens_X5_beside rfl hd_X5_beside ⟨⟨Nat.le_of_ble_eq_true rfl, Nat.le_of_ble_eq_true rfl⟩, Nat.le_of_ble_eq_true rfl, Nat.le_of_ble_eq_true rfl⟩ rfl (Nat.le_of_ble_eq_true rfl) rfl dX5_opens_68 (List.Perm.refl _) (kc' := 0) (ks' := 0) rfl rfl (rwI (ws' := (bl [mdW G a al hi sl sv r o k t m u.2 w tx cl hl tl sp rd])) (List.Perm.refl _) ?_)
        refine V.istore (lv' := [some (.ref (a 0)), some (.int (nI (bN u.1))), some (.int (nI (i53))), some (.int (nI (i53 / 4))), some (.int (mbI (i53 / 4) (i53 % 4)))]) E dX5_opens_71 (Nat.le_of_ble_eq_true rfl) rfl rfl ?_
        refine V.aload_n E dX5_opens_73 rfl rfl ?_
        refine V.getf (C := RX5) (T := TX5) (N := 17) (ref := "GlassSpillModel") E 0 5 5 (by decide +kernel) rfl rfl (by decide) (by decide +kernel) rfl rfl dX5_opens_74 ?_
        refine V.iload_n E dX5_opens_77 rfl rfl ?_
        refine V.ialdN (v := nI (r (i53 / 4))) E 5 rfl (by omega) (by decide) (rfl) dX5_opens_78 ?_
        refine V.bipush (v := nI (16)) E dX5_opens_79 (by decide) ?_
        refine V.icmp_geN (tgt := 120) E (Nat.lt_of_le_of_lt (hr _ (by omega)) (by decide)) (by omega) dX5_opens_81 (by decide) (fun q_81 => ?_) (fun q_81 => ?_)
        · refine V.iincN (lv' := [some (.ref (a 0)), some (.int (nI (bN u.1))), some (.int (nI (i53 + 1))), some (.int (nI (i53 / 4))), some (.int (mbI (i53 / 4) (i53 % 4)))]) E dX5_opens_120 rfl (Nat.le_of_ble_eq_true rfl) rfl rfl ?_
          refine V.goto (tgt := 53) E dX5_opens_123 (by decide) ?_
          refine V.drop (lv' := [some (.ref (a 0)), some (.int (nI (bN u.1))), some (.int (nI (i53 + 1))), none, none]) [true, true, true, false, false] rfl ?_
          exact ih_53 (by omega) u (IJ.skip hg_53 (fun h _ _ => absurd h (by omega)))
        · refine V.aload_n E dX5_opens_84 rfl rfl ?_
          refine V.getf (C := RX5) (T := TX5) (N := 17) (ref := "GlassSpillModel") E 0 5 10 (by decide +kernel) rfl rfl (by decide) (by decide +kernel) rfl rfl dX5_opens_85 ?_
          refine V.iload_n E dX5_opens_88 rfl rfl ?_
          refine V.ialdN (v := nI (u.2 (i53 / 4))) E 10 rfl (by omega) (by decide) (rfl) dX5_opens_89 ?_
          refine V.if_neN (tgt := 120) E ((Nat.lt_of_le_of_lt (hg_53.1.1 _ (by omega)) (by decide))) dX5_opens_90 (by decide) (fun q_90 => ?_) (fun q_90 => ?_)
          · refine V.iincN (lv' := [some (.ref (a 0)), some (.int (nI (bN u.1))), some (.int (nI (i53 + 1))), some (.int (nI (i53 / 4))), some (.int (mbI (i53 / 4) (i53 % 4)))]) E dX5_opens_120 rfl (Nat.le_of_ble_eq_true rfl) rfl rfl ?_
            refine V.goto (tgt := 53) E dX5_opens_123 (by decide) ?_
            refine V.drop (lv' := [some (.ref (a 0)), some (.int (nI (bN u.1))), some (.int (nI (i53 + 1))), none, none]) [true, true, true, false, false] rfl ?_
            exact ih_53 (by omega) u (IJ.skip hg_53 (fun _ _ _ => by have := hg_53.1.1 (i53 / 4) (by omega); omega))
          · refine V.iload E dX5_opens_93 rfl ?_
            refine V.bipush (v := (-6 : Int32)) E dX5_opens_95 (by decide) ?_
            refine V.icmp_eq (tgt := 120) E dX5_opens_97 (by decide) (fun q_97 => ?_) (fun q_97 => ?_)
            · refine V.iincN (lv' := [some (.ref (a 0)), some (.int (nI (bN u.1))), some (.int (nI (i53 + 1))), some (.int (nI (i53 / 4))), some (.int (mbI (i53 / 4) (i53 % 4)))]) E dX5_opens_120 rfl (Nat.le_of_ble_eq_true rfl) rfl rfl ?_
              refine V.goto (tgt := 53) E dX5_opens_123 (by decide) ?_
              refine V.drop (lv' := [some (.ref (a 0)), some (.int (nI (bN u.1))), some (.int (nI (i53 + 1))), none, none]) [true, true, true, false, false] rfl ?_
              exact ih_53 (by omega) u (IJ.skip hg_53 (fun _ h _ => absurd h (by rw [mb_eq (by omega) q_97]; decide)))
            · have hn_ := mb_ne q_97
              have hp_ := nbP_lt (show i53 / 4 < 48 by omega) hn_
              refine V.loc (y := nI (nbP (i53 / 4) (wy (i53 % 4)))) (lv' := [some (.ref (a 0)), some (.int (nI (bN u.1))), some (.int (nI (i53))), some (.int (nI (i53 / 4))), some (.int (nI (nbP (i53 / 4) (wy (i53 % 4)))))]) 4 (mbI_t hn_) rfl rfl ?_
              refine V.aload_n E dX5_opens_100 rfl rfl ?_
              refine V.getf (C := RX5) (T := TX5) (N := 17) (ref := "GlassSpillModel") E 0 5 10 (by decide +kernel) rfl rfl (by decide) (by decide +kernel) rfl rfl dX5_opens_101 ?_
              refine V.iload E dX5_opens_104 rfl ?_
              refine V.ialdN (v := nI (u.2 (nbP (i53 / 4) (wy (i53 % 4))))) E 10 rfl (by omega) (by decide) (rfl) dX5_opens_106 ?_
              refine V.iconst (v := nI (1)) E dX5_opens_107 (by decide) ?_
              refine V.icmp_neN (tgt := 120) E (Nat.lt_of_le_of_lt (hg_53.1.1 _ hp_) (by decide)) (by omega) dX5_opens_108 (by decide) (fun q_108 => ?_) (fun q_108 => ?_)
              · refine V.iincN (lv' := [some (.ref (a 0)), some (.int (nI (bN u.1))), some (.int (nI (i53 + 1))), some (.int (nI (i53 / 4))), some (.int (nI (nbP (i53 / 4) (wy (i53 % 4)))))]) E dX5_opens_120 rfl (Nat.le_of_ble_eq_true rfl) rfl rfl ?_
                refine V.goto (tgt := 53) E dX5_opens_123 (by decide) ?_
                refine V.drop (lv' := [some (.ref (a 0)), some (.int (nI (bN u.1))), some (.int (nI (i53 + 1))), none, none]) [true, true, true, false, false] rfl ?_
                exact ih_53 (by omega) u (IJ.skip hg_53 (fun _ _ h => absurd h q_108))
              · refine V.aload_n E dX5_opens_111 rfl rfl ?_
                refine V.getf (C := RX5) (T := TX5) (N := 17) (ref := "GlassSpillModel") E 0 5 10 (by decide +kernel) rfl rfl (by decide) (by decide +kernel) rfl rfl dX5_opens_112 ?_
                refine V.iload_n E dX5_opens_115 rfl rfl ?_
                refine V.iconst (v := nI (1)) E dX5_opens_116 (by decide) ?_
                refine V.iastN (f' := nA (upN u.2 (i53 / 4) 1)) (ws' := (bl [mdW G a al hi sl sv r o k t m (upN u.2 (i53 / 4) 1) w tx cl hl tl sp rd])) E 10 rfl (by omega) (by decide) dX5_opens_117 (fun j _ => upN_a j) rfl ?_
                refine V.iconst (v := nI (1)) E dX5_opens_118 (by decide) ?_
                refine V.istore_n (lv' := [some (.ref (a 0)), some (.int (nI (1))), some (.int (nI (i53))), some (.int (nI (i53 / 4))), some (.int (nI (nbP (i53 / 4) (wy (i53 % 4)))))]) E dX5_opens_119 rfl (Nat.le_of_ble_eq_true rfl) rfl rfl ?_
                refine V.iincN (lv' := [some (.ref (a 0)), some (.int (nI (1))), some (.int (nI (i53 + 1))), some (.int (nI (i53 / 4))), some (.int (nI (nbP (i53 / 4) (wy (i53 % 4)))))]) E dX5_opens_120 rfl (Nat.le_of_ble_eq_true rfl) rfl rfl ?_
                refine V.goto (tgt := 53) E dX5_opens_123 (by decide) ?_
                refine V.drop (lv' := [some (.ref (a 0)), some (.int (nI (1))), some (.int (nI (i53 + 1))), none, none]) [true, true, true, false, false] rfl ?_
                refine V.locN (b := bN ((true, upN u.2 (i53 / 4) 1)).1) (lv' := [some (.ref (a 0)), some (.int (nI (bN ((true, upN u.2 (i53 / 4) 1)).1))), some (.int (nI (i53 + 1))), none, none]) 1 (rfl) rfl rfl ?_
                show V G A X rm_c_X5_opens (bl [mdW G a al hi sl sv r o k t m (((true, upN u.2 (i53 / 4) 1)).2) w tx cl hl tl sp rd]) 0 0 53 [some (.ref (a 0)), some (.int (nI (bN ((true, upN u.2 (i53 / 4) 1)).1))), some (.int (nI (i53 + 1))), none, none] []
                exact ih_53 (by omega) ((true, upN u.2 (i53 / 4) 1)) (IJ.put hg_53 (by omega) (by omega) (by omega) hn_ q_108)
  · refine V.aload_n E dX5_opens_8 rfl rfl ?_
    refine V.getf (C := RX5) (T := TX5) (N := 17) (ref := "GlassSpillModel") E 0 5 10 (by decide +kernel) rfl rfl (by decide) (by decide +kernel) rfl rfl dX5_opens_9 ?_
    refine V.iload_n E dX5_opens_12 rfl rfl ?_
    refine V.aload_n E dX5_opens_13 rfl rfl ?_
    refine V.getf (C := RX5) (T := TX5) (N := 17) (ref := "GlassSpillModel") E 0 5 5 (by decide +kernel) rfl rfl (by decide) (by decide +kernel) rfl rfl dX5_opens_14 ?_
    refine V.iload_n E dX5_opens_17 rfl rfl ?_
    refine V.ialdN (v := nI (r i2)) E 5 rfl (by omega) (by decide) (rfl) dX5_opens_18 ?_
    refine V.bipush (v := nI (16)) E dX5_opens_19 (by decide) ?_
    refine V.icmp_geN (tgt := 35) E (Nat.lt_of_le_of_lt (hr _ (by omega)) (by decide)) (by omega) dX5_opens_21 (by decide) (fun q_21 => ?_) (fun q_21 => ?_)
    · refine V.iconst (v := nI (0)) E dX5_opens_35 (by decide) ?_
      refine V.iastN (f' := nA (mxn (i2 + 1) (eS r) e)) (ws' := (bl [mdW G a al hi sl sv r o k t m (mxn (i2 + 1) (eS r) e) w tx cl hl tl sp rd])) E 10 rfl (by omega) (by decide) dX5_opens_36 (fun j _ => mxn_u (by show 0 = bN _; rw [decide_eq_false (by omega)]; rfl) j) rfl ?_
      refine V.iincN (lv' := [some (.ref (a 0)), some (.int (nI (i2 + 1))), none, none, none]) E dX5_opens_37 rfl (Nat.le_of_ble_eq_true rfl) rfl rfl ?_
      refine V.goto (tgt := 2) E dX5_opens_40 (by decide) ?_
      exact ih_2 (by omega)
    · refine V.iload_n E dX5_opens_24 rfl rfl ?_
      refine V.callS E (c_X5_isEdge G i2 (by omega)) (bl [mdW G a al hi sl sv r o k t m (mxn i2 (eS r) e) w tx cl hl tl sp rd]) [.int (nI (i2)), .ref (a 10)] gX5_opens_X5_isEdge rfl hd_X5_isEdge ⟨⟨Nat.le_of_ble_eq_true rfl, Nat.le_of_ble_eq_true rfl⟩, Nat.le_of_ble_eq_true rfl, Nat.le_of_ble_eq_true rfl⟩ rfl (Nat.le_of_ble_eq_true rfl) rfl dX5_opens_25 (List.Perm.refl _) (kc' := 0) (ks' := 0) rfl rfl (rwI (ws' := (bl [mdW G a al hi sl sv r o k t m (mxn i2 (eS r) e) w tx cl hl tl sp rd])) (List.Perm.refl _) ?_)
      refine V.if_eqB (tgt := 35) E dX5_opens_28 (by decide) (fun q_28 => ?_) (fun q_28 => ?_)
      · refine V.iconst (v := nI (0)) E dX5_opens_35 (by decide) ?_
        refine V.iastN (f' := nA (mxn (i2 + 1) (eS r) e)) (ws' := (bl [mdW G a al hi sl sv r o k t m (mxn (i2 + 1) (eS r) e) w tx cl hl tl sp rd])) E 10 rfl (by omega) (by decide) dX5_opens_36 (fun j _ => mxn_u (by show 0 = bN _; rw [q_28, Bool.and_false]; rfl) j) rfl ?_
        refine V.iincN (lv' := [some (.ref (a 0)), some (.int (nI (i2 + 1))), none, none, none]) E dX5_opens_37 rfl (Nat.le_of_ble_eq_true rfl) rfl rfl ?_
        refine V.goto (tgt := 2) E dX5_opens_40 (by decide) ?_
        exact ih_2 (by omega)
      · refine V.iconst (v := nI (1)) E dX5_opens_31 (by decide) ?_
        refine V.goto (tgt := 36) E dX5_opens_32 (by decide) ?_
        refine V.iastN (f' := nA (mxn (i2 + 1) (eS r) e)) (ws' := (bl [mdW G a al hi sl sv r o k t m (mxn (i2 + 1) (eS r) e) w tx cl hl tl sp rd])) E 10 rfl (by omega) (by decide) dX5_opens_36 (fun j _ => mxn_u (by show 1 = bN _; rw [decide_eq_true (by omega), q_28]; rfl) j) rfl ?_
        refine V.iincN (lv' := [some (.ref (a 0)), some (.int (nI (i2 + 1))), none, none, none]) E dX5_opens_37 rfl (Nat.le_of_ble_eq_true rfl) rfl rfl ?_
        refine V.goto (tgt := 2) E dX5_opens_40 (by decide) ?_
        exact ih_2 (by omega)
abbrev rm_c_X5_works : Room := { frames := 4, cells := 0, slots := 0, locals := 94 }
theorem hd_X5_works : yX5_works.cls ≠ "java/lang/invoke/MethodHandle" ∧ yX5_works.cls ≠ "java/lang/invoke/VarHandle" ∧ (parseMethodDescriptor yX5_works.desc).map (fun d => d.parameters.length) = some 0 := by decide +kernel
set_option maxRecDepth 100000 in
set_option maxHeartbeats 8000000 in
theorem c_X5_works (G : VC) (a : Nat → Nat) (hi : Nat → Nat) (sl : Nat → Nat) (sv : Nat → Nat) (r : Nat → Nat) (o : Nat → Nat) (k : Nat → Nat) (t : Nat → Nat) (m : Nat → Nat) (e : Nat → Nat) (w : Nat → Nat) (tx : Nat → Nat) (cl : Nat → Int32) (hl : Nat) (tl : Nat) (sp : Nat) (rd : Nat) (x : SC) (hx : SInv x) : Ctr yX5_works wsX5_works rm_c_X5_works G [.ref (a 0)] (bl [mdW G a (fla x) hi sl sv r o k t m e w tx cl hl tl sp rd]) (fun v9_ u9_ => ∃ ge : Nat → Nat, u9_ = (bl [mdW G a (fla x) hi sl sv (rawF x) (opqF x) (kndF x) (tknF x) (cmpF x) ge w tx cl hl tl sp rd]) ∧ v9_ = none ∧ (True)) := by
  refine Ctr.void (cc := cX5_works) (maxL := 3) (lv0 := [some (.ref (a 0)), none, none]) (by decide) rfl rfl rfl (Nat.le_of_ble_eq_true rfl) (fun A X E hinit hend => ?_)
  refine V.aload_n E dX5_works_0 rfl rfl ?_
  refine V.callV (C := RX5) E (c_X5_mainPart G a hi sl sv r o k t m e w tx cl hl tl sp rd x (hx)) (bl []) [] 0 5 rfl rfl rfl gX5_works_X5_mainPart rfl ⟨rfl, hd_X5_mainPart⟩ ⟨⟨Nat.le_of_ble_eq_true rfl, Nat.le_of_ble_eq_true rfl⟩, Nat.le_of_ble_eq_true rfl, Nat.le_of_ble_eq_true rfl⟩ rfl (Nat.le_of_ble_eq_true rfl) rfl dX5_works_1 (pBs (n := 1) [mdW G a (fla x) hi sl sv r o k t m e w tx cl hl tl sp rd] [0] [] rfl (by decide)) (kc' := 0) (ks' := 0) rfl rfl (rwI (ws' := (bl [mdW G a (fla x) hi sl sv r o k t m e w tx cl hl tl sp rd])) (pBs (n := 1) [mdW G a (fla x) hi sl sv r o k t m e w tx cl hl tl sp rd] [0] [] rfl (by decide)).symm ?_)
  refine V.istore_n (lv' := [some (.ref (a 0)), some (.int (nI (mainP (scC x)))), none]) E dX5_works_4 rfl (Nat.le_of_ble_eq_true rfl) rfl rfl ?_
  refine V.iconst (v := nI (0)) E dX5_works_5 (by decide) ?_
  refine V.istore_n (lv' := [some (.ref (a 0)), some (.int (nI (mainP (scC x)))), some (.int (nI (0)))]) E dX5_works_6 rfl (Nat.le_of_ble_eq_true rfl) rfl rfl ?_
  refine V.arr (f' := nA (mxn 0 (rawF x) r)) (ws' := (bl [mdW G a (fla x) hi sl sv (mxn 0 (rawF x) r) o k t m e w tx cl hl tl sp rd])) 5 rfl (fun j _ => mxn_0 j) rfl ?_
  refine loopN (P := fun i7 => V G A X rm_c_X5_works (bl [mdW G a (fla x) hi sl sv (mxn i7 (rawF x) r) o k t m e w tx cl hl tl sp rd]) 0 0 7 [some (.ref (a 0)), some (.int (nI (mainP (scC x)))), some (.int (nI (i7)))] []) 48 (fun i7 hi_7 ih_7 => ?_) 0 (Nat.zero_le _)
  refine V.iload_n E dX5_works_7 rfl rfl ?_
  refine V.bipush (v := nI (48)) E dX5_works_8 (by decide) ?_
  refine V.icmp_geN (tgt := 48) E (by omega) (by omega) dX5_works_10 (by decide) (fun q_10 => ?_) (fun q_10 => ?_)
  · obtain rfl : i7 = 48 := by omega
    refine V.arr (f' := nA (rawF x)) (ws' := (bl [mdW G a (fla x) hi sl sv (rawF x) o k t m e w tx cl hl tl sp rd])) 5 rfl (fun j hj => mxn_n j hj) rfl ?_
    refine V.aload_n E dX5_works_48 rfl rfl ?_
    refine V.callV (C := RX5) E (c_X5_opens G a (fla x) hi sl sv (rawF x) o k t m e w tx cl hl tl sp rd (fun j _ => rawF_le x j)) (bl []) [] 0 5 rfl rfl rfl gX5_works_X5_opens rfl ⟨rfl, hd_X5_opens⟩ ⟨⟨Nat.le_of_ble_eq_true rfl, Nat.le_of_ble_eq_true rfl⟩, Nat.le_of_ble_eq_true rfl, Nat.le_of_ble_eq_true rfl⟩ rfl (Nat.le_of_ble_eq_true rfl) rfl dX5_works_49 (pBs (n := 1) [mdW G a (fla x) hi sl sv (rawF x) o k t m e w tx cl hl tl sp rd] [0] [] rfl (by decide)) (kc' := 0) (ks' := 0) rfl rfl (rxV (ws' := fun (g_49 : Nat → Nat) => (bl [mdW G a (fla x) hi sl sv (rawF x) o k t m g_49 w tx cl hl tl sp rd])) (fun g_49 => (pBs (n := 1) [mdW G a (fla x) hi sl sv (rawF x) o k t m g_49 w tx cl hl tl sp rd] [0] [] rfl (by decide)).symm) (fun g_49 hf_49 => ?_))
    refine V.iconst (v := nI (0)) E dX5_works_52 (by decide) ?_
    refine V.istore_n (lv' := [some (.ref (a 0)), some (.int (nI (mainP (scC x)))), some (.int (nI (0)))]) E dX5_works_53 rfl (Nat.le_of_ble_eq_true rfl) rfl rfl ?_
    refine V.arr (f' := nA (mxn 0 (opqF x) o)) (ws' := (bl [mdW G a (fla x) hi sl sv (rawF x) (mxn 0 (opqF x) o) k t m g_49 w tx cl hl tl sp rd])) 6 rfl (fun j _ => mxn_0 j) rfl ?_
    refine loopN (P := fun i54 => V G A X rm_c_X5_works (bl [mdW G a (fla x) hi sl sv (rawF x) (mxn i54 (opqF x) o) k t m g_49 w tx cl hl tl sp rd]) 0 0 54 [some (.ref (a 0)), some (.int (nI (mainP (scC x)))), some (.int (nI (i54)))] []) 48 (fun i54 hi_54 ih_54 => ?_) 0 (Nat.zero_le _)
    refine V.iload_n E dX5_works_54 rfl rfl ?_
    refine V.bipush (v := nI (48)) E dX5_works_55 (by decide) ?_
    refine V.icmp_geN (tgt := 102) E (by omega) (by omega) dX5_works_57 (by decide) (fun q_57 => ?_) (fun q_57 => ?_)
    · obtain rfl : i54 = 48 := by omega
      refine V.arr (f' := nA (opqF x)) (ws' := (bl [mdW G a (fla x) hi sl sv (rawF x) (opqF x) k t m g_49 w tx cl hl tl sp rd])) 6 rfl (fun j hj => mxn_n j hj) rfl ?_
      refine V.iconst (v := nI (0)) E dX5_works_102 (by decide) ?_
      refine V.istore_n (lv' := [some (.ref (a 0)), some (.int (nI (mainP (scC x)))), some (.int (nI (0)))]) E dX5_works_103 rfl (Nat.le_of_ble_eq_true rfl) rfl rfl ?_
      refine V.arr (f' := nA (mxn 0 (kndF x) k)) (ws' := (bl [mdW G a (fla x) hi sl sv (rawF x) (opqF x) (mxn 0 (kndF x) k) t m g_49 w tx cl hl tl sp rd])) 7 rfl (fun j _ => mxn_0 j) rfl ?_
      refine V.arr (f' := nA (mxn 0 (tknF x) t)) (ws' := (bl [mdW G a (fla x) hi sl sv (rawF x) (opqF x) (mxn 0 (kndF x) k) (mxn 0 (tknF x) t) m g_49 w tx cl hl tl sp rd])) 8 rfl (fun j _ => mxn_0 j) rfl ?_
      refine V.arr (f' := nA (mxn 0 (cmpF x) m)) (ws' := (bl [mdW G a (fla x) hi sl sv (rawF x) (opqF x) (mxn 0 (kndF x) k) (mxn 0 (tknF x) t) (mxn 0 (cmpF x) m) g_49 w tx cl hl tl sp rd])) 9 rfl (fun j _ => mxn_0 j) rfl ?_
      refine loopN (P := fun i104 => V G A X rm_c_X5_works (bl [mdW G a (fla x) hi sl sv (rawF x) (opqF x) (mxn i104 (kndF x) k) (mxn i104 (tknF x) t) (mxn i104 (cmpF x) m) g_49 w tx cl hl tl sp rd]) 0 0 104 [some (.ref (a 0)), some (.int (nI (mainP (scC x)))), some (.int (nI (i104)))] []) 48 (fun i104 hi_104 ih_104 => ?_) 0 (Nat.zero_le _)
      refine V.iload_n E dX5_works_104 rfl rfl ?_
      refine V.bipush (v := nI (48)) E dX5_works_105 (by decide) ?_
      refine V.icmp_geN (tgt := 190) E (by omega) (by omega) dX5_works_107 (by decide) (fun q_107 => ?_) (fun q_107 => ?_)
      · obtain rfl : i104 = 48 := by omega
        refine V.arr (f' := nA (kndF x)) (ws' := (bl [mdW G a (fla x) hi sl sv (rawF x) (opqF x) (kndF x) (mxn 48 (tknF x) t) (mxn 48 (cmpF x) m) g_49 w tx cl hl tl sp rd])) 7 rfl (fun j hj => mxn_n j hj) rfl ?_
        refine V.arr (f' := nA (tknF x)) (ws' := (bl [mdW G a (fla x) hi sl sv (rawF x) (opqF x) (kndF x) (tknF x) (mxn 48 (cmpF x) m) g_49 w tx cl hl tl sp rd])) 8 rfl (fun j hj => mxn_n j hj) rfl ?_
        refine V.arr (f' := nA (cmpF x)) (ws' := (bl [mdW G a (fla x) hi sl sv (rawF x) (opqF x) (kndF x) (tknF x) (cmpF x) g_49 w tx cl hl tl sp rd])) 9 rfl (fun j hj => mxn_n j hj) rfl ?_
        exact hend _ _ _ dX5_works_190 ⟨g_49, rfl, rfl, trivial⟩
      · refine V.aload_n E dX5_works_110 rfl rfl ?_
        refine V.getf (C := RX5) (T := TX5) (N := 17) (ref := "GlassSpillModel") E 0 5 7 (by decide +kernel) rfl rfl (by decide) (by decide +kernel) rfl rfl dX5_works_111 ?_
        refine V.iload_n E dX5_works_114 rfl rfl ?_
        refine V.aload_n E dX5_works_115 rfl rfl ?_
        refine V.iload_n E dX5_works_116 rfl rfl ?_
        refine V.callV (C := RX5) E (c_X5_kindOf G a hi sl sv (rawF x) (opqF x) (mxn i104 (kndF x) k) (mxn i104 (tknF x) t) (mxn i104 (cmpF x) m) g_49 w tx cl hl tl sp rd x i104 (hx) (by omega) (fun j _ => opqF_le x j)) (bl []) [.int (nI (i104)), .ref (a 7)] 0 5 rfl rfl rfl gX5_works_X5_kindOf rfl ⟨rfl, hd_X5_kindOf⟩ ⟨⟨Nat.le_of_ble_eq_true rfl, Nat.le_of_ble_eq_true rfl⟩, Nat.le_of_ble_eq_true rfl, Nat.le_of_ble_eq_true rfl⟩ rfl (Nat.le_of_ble_eq_true rfl) rfl dX5_works_117 (pBs (n := 1) [mdW G a (fla x) hi sl sv (rawF x) (opqF x) (mxn i104 (kndF x) k) (mxn i104 (tknF x) t) (mxn i104 (cmpF x) m) g_49 w tx cl hl tl sp rd] [0] [] rfl (by decide)) (kc' := 0) (ks' := 0) rfl rfl (rwI (ws' := (bl [mdW G a (fla x) hi sl sv (rawF x) (opqF x) (mxn i104 (kndF x) k) (mxn i104 (tknF x) t) (mxn i104 (cmpF x) m) g_49 w tx cl hl tl sp rd])) (pBs (n := 1) [mdW G a (fla x) hi sl sv (rawF x) (opqF x) (mxn i104 (kndF x) k) (mxn i104 (tknF x) t) (mxn i104 (cmpF x) m) g_49 w tx cl hl tl sp rd] [0] [] rfl (by decide)).symm ?_)
        refine V.iastN (f' := nA (mxn (i104 + 1) (kndF x) k)) (ws' := (bl [mdW G a (fla x) hi sl sv (rawF x) (opqF x) (mxn (i104 + 1) (kndF x) k) (mxn i104 (tknF x) t) (mxn i104 (cmpF x) m) g_49 w tx cl hl tl sp rd])) E 7 rfl (by omega) (by decide) dX5_works_120 (fun j _ => mxn_u rfl j) rfl ?_
        refine V.aload_n E dX5_works_121 rfl rfl ?_
        refine V.getf (C := RX5) (T := TX5) (N := 17) (ref := "GlassSpillModel") E 0 5 8 (by decide +kernel) rfl rfl (by decide) (by decide +kernel) rfl rfl dX5_works_122 ?_
        refine V.iload_n E dX5_works_125 rfl rfl ?_
        refine V.aload_n E dX5_works_126 rfl rfl ?_
        refine V.getf (C := RX5) (T := TX5) (N := 17) (ref := "GlassSpillModel") E 0 5 0 (by decide +kernel) rfl rfl (by decide) (by decide +kernel) rfl rfl dX5_works_127 ?_
        refine V.bipush (v := nI (7)) E dX5_works_130 (by decide) ?_
        refine V.iload_n E dX5_works_132 rfl rfl ?_
        refine V.iaddN E  dX5_works_133 ?_
        refine V.ialdN (v := nI (scF x i104)) E 1 rfl (by omega) (by decide) (congrArg nI (fla_F _ (by omega))) dX5_works_134 ?_
        refine V.iload_n E dX5_works_135 rfl rfl ?_
        refine V.callS E (c_X5_spillOf G (scF x i104) (mainP (scC x)) (hx.f _ (by omega)) (mainP_lt _)) (bl [mdW G a (fla x) hi sl sv (rawF x) (opqF x) (mxn (i104 + 1) (kndF x) k) (mxn i104 (tknF x) t) (mxn i104 (cmpF x) m) g_49 w tx cl hl tl sp rd]) [.int (nI (i104)), .ref (a 8)] gX5_works_X5_spillOf rfl hd_X5_spillOf ⟨⟨Nat.le_of_ble_eq_true rfl, Nat.le_of_ble_eq_true rfl⟩, Nat.le_of_ble_eq_true rfl, Nat.le_of_ble_eq_true rfl⟩ rfl (Nat.le_of_ble_eq_true rfl) rfl dX5_works_136 (List.Perm.refl _) (kc' := 0) (ks' := 0) rfl rfl (rwI (ws' := (bl [mdW G a (fla x) hi sl sv (rawF x) (opqF x) (mxn (i104 + 1) (kndF x) k) (mxn i104 (tknF x) t) (mxn i104 (cmpF x) m) g_49 w tx cl hl tl sp rd])) (List.Perm.refl _) ?_)
        refine V.aload_n E dX5_works_139 rfl rfl ?_
        refine V.aload_n E dX5_works_140 rfl rfl ?_
        refine V.getf (C := RX5) (T := TX5) (N := 17) (ref := "GlassSpillModel") E 0 5 7 (by decide +kernel) rfl rfl (by decide) (by decide +kernel) rfl rfl dX5_works_141 ?_
        refine V.iload_n E dX5_works_144 rfl rfl ?_
        refine V.ialdN (v := nI (kndF x i104)) E 7 rfl (by omega) (by decide) (congrArg nI mxn_at) dX5_works_145 ?_
        refine V.callV (C := RX5) E (c_X5_shareOf G a hi sl sv (rawF x) (opqF x) (mxn (i104 + 1) (kndF x) k) (mxn i104 (tknF x) t) (mxn i104 (cmpF x) m) g_49 w tx cl hl tl sp rd x (kndF x i104) (kndF_le x _)) (bl []) [.int (nI (spl (scF x i104) (mainP (scC x)))), .int (nI (i104)), .ref (a 8)] 0 5 rfl rfl rfl gX5_works_X5_shareOf rfl ⟨rfl, hd_X5_shareOf⟩ ⟨⟨Nat.le_of_ble_eq_true rfl, Nat.le_of_ble_eq_true rfl⟩, Nat.le_of_ble_eq_true rfl, Nat.le_of_ble_eq_true rfl⟩ rfl (Nat.le_of_ble_eq_true rfl) rfl dX5_works_146 (pBs (n := 1) [mdW G a (fla x) hi sl sv (rawF x) (opqF x) (mxn (i104 + 1) (kndF x) k) (mxn i104 (tknF x) t) (mxn i104 (cmpF x) m) g_49 w tx cl hl tl sp rd] [0] [] rfl (by decide)) (kc' := 0) (ks' := 0) rfl rfl (rwI (ws' := (bl [mdW G a (fla x) hi sl sv (rawF x) (opqF x) (mxn (i104 + 1) (kndF x) k) (mxn i104 (tknF x) t) (mxn i104 (cmpF x) m) g_49 w tx cl hl tl sp rd])) (pBs (n := 1) [mdW G a (fla x) hi sl sv (rawF x) (opqF x) (mxn (i104 + 1) (kndF x) k) (mxn i104 (tknF x) t) (mxn i104 (cmpF x) m) g_49 w tx cl hl tl sp rd] [0] [] rfl (by decide)).symm ?_)
        refine V.imulN E  dX5_works_149 ?_
        refine V.bipush (v := nI (16)) E dX5_works_150 (by decide) ?_
        refine V.idivN E (Nat.lt_trans (tkG_num hx (kndF x) i104) (by decide)) (by decide) (by decide) dX5_works_152 ?_
        refine V.iastN (f' := nA (mxn (i104 + 1) (tknF x) t)) (ws' := (bl [mdW G a (fla x) hi sl sv (rawF x) (opqF x) (mxn (i104 + 1) (kndF x) k) (mxn (i104 + 1) (tknF x) t) (mxn i104 (cmpF x) m) g_49 w tx cl hl tl sp rd])) E 8 rfl (by omega) (by decide) dX5_works_153 (fun j _ => mxn_u rfl j) rfl ?_
        refine V.aload_n E dX5_works_154 rfl rfl ?_
        refine V.getf (C := RX5) (T := TX5) (N := 17) (ref := "GlassSpillModel") E 0 5 9 (by decide +kernel) rfl rfl (by decide) (by decide +kernel) rfl rfl dX5_works_155 ?_
        refine V.iload_n E dX5_works_158 rfl rfl ?_
        refine V.aload_n E dX5_works_159 rfl rfl ?_
        refine V.iload_n E dX5_works_160 rfl rfl ?_
        refine V.aload_n E dX5_works_161 rfl rfl ?_
        refine V.getf (C := RX5) (T := TX5) (N := 17) (ref := "GlassSpillModel") E 0 5 0 (by decide +kernel) rfl rfl (by decide) (by decide +kernel) rfl rfl dX5_works_162 ?_
        refine V.bipush (v := nI (7)) E dX5_works_165 (by decide) ?_
        refine V.iload_n E dX5_works_167 rfl rfl ?_
        refine V.iaddN E  dX5_works_168 ?_
        refine V.ialdN (v := nI (scF x i104)) E 1 rfl (by omega) (by decide) (congrArg nI (fla_F _ (by omega))) dX5_works_169 ?_
        refine V.iload_n E dX5_works_170 rfl rfl ?_
        refine V.aload_n E dX5_works_171 rfl rfl ?_
        refine V.getf (C := RX5) (T := TX5) (N := 17) (ref := "GlassSpillModel") E 0 5 8 (by decide +kernel) rfl rfl (by decide) (by decide +kernel) rfl rfl dX5_works_172 ?_
        refine V.iload_n E dX5_works_175 rfl rfl ?_
        refine V.ialdN (v := nI (tknF x i104)) E 8 rfl (by omega) (by decide) (congrArg nI mxn_at) dX5_works_176 ?_
        refine V.callS E (c_X5_without G (scF x i104) (mainP (scC x)) (tknF x i104) (mainP_lt _) (hx.f _ (by omega)) (tkG_mul hx (kndF x) i104)) (bl [mdW G a (fla x) hi sl sv (rawF x) (opqF x) (mxn (i104 + 1) (kndF x) k) (mxn (i104 + 1) (tknF x) t) (mxn i104 (cmpF x) m) g_49 w tx cl hl tl sp rd]) [.int (nI (i104)), .ref (a 0), .int (nI (i104)), .ref (a 9)] gX5_works_X5_without rfl hd_X5_without ⟨⟨Nat.le_of_ble_eq_true rfl, Nat.le_of_ble_eq_true rfl⟩, Nat.le_of_ble_eq_true rfl, Nat.le_of_ble_eq_true rfl⟩ rfl (Nat.le_of_ble_eq_true rfl) rfl dX5_works_177 (List.Perm.refl _) (kc' := 0) (ks' := 0) rfl rfl (rwI (ws' := (bl [mdW G a (fla x) hi sl sv (rawF x) (opqF x) (mxn (i104 + 1) (kndF x) k) (mxn (i104 + 1) (tknF x) t) (mxn i104 (cmpF x) m) g_49 w tx cl hl tl sp rd])) (List.Perm.refl _) ?_)
        refine V.callV (C := RX5) E (c_X5_composes G a hi sl sv (rawF x) (opqF x) (mxn (i104 + 1) (kndF x) k) (mxn (i104 + 1) (tknF x) t) (mxn i104 (cmpF x) m) g_49 w tx cl hl tl sp rd x i104 ((scF x i104) - (tknF x i104) * 2 ^ (4 * (2 - (mainP (scC x))))) (hx) (by omega) (clnF_lt hx (by omega)) (opqF_le x _)) (bl []) [.int (nI (i104)), .ref (a 9)] 0 5 rfl rfl rfl gX5_works_X5_composes rfl ⟨rfl, hd_X5_composes⟩ ⟨⟨Nat.le_of_ble_eq_true rfl, Nat.le_of_ble_eq_true rfl⟩, Nat.le_of_ble_eq_true rfl, Nat.le_of_ble_eq_true rfl⟩ rfl (Nat.le_of_ble_eq_true rfl) rfl dX5_works_180 (pBs (n := 1) [mdW G a (fla x) hi sl sv (rawF x) (opqF x) (mxn (i104 + 1) (kndF x) k) (mxn (i104 + 1) (tknF x) t) (mxn i104 (cmpF x) m) g_49 w tx cl hl tl sp rd] [0] [] rfl (by decide)) (kc' := 0) (ks' := 0) rfl rfl (rwI (ws' := (bl [mdW G a (fla x) hi sl sv (rawF x) (opqF x) (mxn (i104 + 1) (kndF x) k) (mxn (i104 + 1) (tknF x) t) (mxn i104 (cmpF x) m) g_49 w tx cl hl tl sp rd])) (pBs (n := 1) [mdW G a (fla x) hi sl sv (rawF x) (opqF x) (mxn (i104 + 1) (kndF x) k) (mxn (i104 + 1) (tknF x) t) (mxn i104 (cmpF x) m) g_49 w tx cl hl tl sp rd] [0] [] rfl (by decide)).symm ?_)
        refine V.iastN (f' := nA (mxn (i104 + 1) (cmpF x) m)) (ws' := (bl [mdW G a (fla x) hi sl sv (rawF x) (opqF x) (mxn (i104 + 1) (kndF x) k) (mxn (i104 + 1) (tknF x) t) (mxn (i104 + 1) (cmpF x) m) g_49 w tx cl hl tl sp rd])) E 9 rfl (by omega) (by decide) dX5_works_183 (fun j _ => mxn_u rfl j) rfl ?_
        refine V.iincN (lv' := [some (.ref (a 0)), some (.int (nI (mainP (scC x)))), some (.int (nI (i104 + 1)))]) E dX5_works_184 rfl (Nat.le_of_ble_eq_true rfl) rfl rfl ?_
        refine V.goto (tgt := 104) E dX5_works_187 (by decide) ?_
        exact ih_104 (by omega)
    · refine V.aload_n E dX5_works_60 rfl rfl ?_
      refine V.getf (C := RX5) (T := TX5) (N := 17) (ref := "GlassSpillModel") E 0 5 6 (by decide +kernel) rfl rfl (by decide) (by decide +kernel) rfl rfl dX5_works_61 ?_
      refine V.iload_n E dX5_works_64 rfl rfl ?_
      refine V.aload_n E dX5_works_65 rfl rfl ?_
      refine V.getf (C := RX5) (T := TX5) (N := 17) (ref := "GlassSpillModel") E 0 5 0 (by decide +kernel) rfl rfl (by decide) (by decide +kernel) rfl rfl dX5_works_66 ?_
      refine V.iconst (v := nI (5)) E dX5_works_69 (by decide) ?_
      refine V.ialdN (v := nI (scS x 5)) E 1 rfl (by omega) (by decide) (congrArg nI (fla_S _ (by decide))) dX5_works_70 ?_
      refine V.iconst (v := nI (1)) E dX5_works_71 (by decide) ?_
      refine V.icmp_neN (tgt := 89) E (by have := hx.s5; omega) (by omega) dX5_works_72 (by decide) (fun q_72 => ?_) (fun q_72 => ?_)
      · refine V.aload_n E dX5_works_89 rfl rfl ?_
        refine V.getf (C := RX5) (T := TX5) (N := 17) (ref := "GlassSpillModel") E 0 5 5 (by decide +kernel) rfl rfl (by decide) (by decide +kernel) rfl rfl dX5_works_90 ?_
        refine V.iload_n E dX5_works_93 rfl rfl ?_
        refine V.ialdN (v := nI ((rawF x) i54)) E 5 rfl (by omega) (by decide) (rfl) dX5_works_94 ?_
        refine V.iastN (f' := nA (mxn (i54 + 1) (opqF x) o)) (ws' := (bl [mdW G a (fla x) hi sl sv (rawF x) (mxn (i54 + 1) (opqF x) o) k t m g_49 w tx cl hl tl sp rd])) E 6 rfl (by omega) (by decide) dX5_works_95 (fun j _ => mxn_u (opq_n q_72 i54) j) rfl ?_
        refine V.iincN (lv' := [some (.ref (a 0)), some (.int (nI (mainP (scC x)))), some (.int (nI (i54 + 1)))]) E dX5_works_96 rfl (Nat.le_of_ble_eq_true rfl) rfl rfl ?_
        refine V.goto (tgt := 54) E dX5_works_99 (by decide) ?_
        exact ih_54 (by omega)
      · refine V.aload_n E dX5_works_75 rfl rfl ?_
        refine V.getf (C := RX5) (T := TX5) (N := 17) (ref := "GlassSpillModel") E 0 5 10 (by decide +kernel) rfl rfl (by decide) (by decide +kernel) rfl rfl dX5_works_76 ?_
        refine V.iload_n E dX5_works_79 rfl rfl ?_
        refine V.ialdN (v := nI (g_49 i54)) E 10 rfl (by omega) (by decide) (rfl) dX5_works_80 ?_
        refine V.if_neN (tgt := 89) E ((Nat.lt_of_le_of_lt ((hf_49 _ (by omega)).1) (by decide))) dX5_works_81 (by decide) (fun q_81 => ?_) (fun q_81 => ?_)
        · refine V.aload_n E dX5_works_89 rfl rfl ?_
          refine V.getf (C := RX5) (T := TX5) (N := 17) (ref := "GlassSpillModel") E 0 5 5 (by decide +kernel) rfl rfl (by decide) (by decide +kernel) rfl rfl dX5_works_90 ?_
          refine V.iload_n E dX5_works_93 rfl rfl ?_
          refine V.ialdN (v := nI ((rawF x) i54)) E 5 rfl (by omega) (by decide) (rfl) dX5_works_94 ?_
          refine V.iastN (f' := nA (mxn (i54 + 1) (opqF x) o)) (ws' := (bl [mdW G a (fla x) hi sl sv (rawF x) (mxn (i54 + 1) (opqF x) o) k t m g_49 w tx cl hl tl sp rd])) E 6 rfl (by omega) (by decide) dX5_works_95 (fun j _ => mxn_u (opq_o ((hf_49 i54 (by omega)).2.mp (by have := (hf_49 i54 (by omega)).1; omega))) j) rfl ?_
          refine V.iincN (lv' := [some (.ref (a 0)), some (.int (nI (mainP (scC x)))), some (.int (nI (i54 + 1)))]) E dX5_works_96 rfl (Nat.le_of_ble_eq_true rfl) rfl rfl ?_
          refine V.goto (tgt := 54) E dX5_works_99 (by decide) ?_
          exact ih_54 (by omega)
        · refine V.bipush (v := nI (16)) E dX5_works_84 (by decide) ?_
          refine V.goto (tgt := 95) E dX5_works_86 (by decide) ?_
          refine V.iastN (f' := nA (mxn (i54 + 1) (opqF x) o)) (ws' := (bl [mdW G a (fla x) hi sl sv (rawF x) (mxn (i54 + 1) (opqF x) o) k t m g_49 w tx cl hl tl sp rd])) E 6 rfl (by omega) (by decide) dX5_works_95 (fun j _ => mxn_u (opq_c q_72 (fun h => absurd ((hf_49 i54 (by omega)).2.mpr h) (by omega))) j) rfl ?_
          refine V.iincN (lv' := [some (.ref (a 0)), some (.int (nI (mainP (scC x)))), some (.int (nI (i54 + 1)))]) E dX5_works_96 rfl (Nat.le_of_ble_eq_true rfl) rfl rfl ?_
          refine V.goto (tgt := 54) E dX5_works_99 (by decide) ?_
          exact ih_54 (by omega)
  · refine V.aload_n E dX5_works_13 rfl rfl ?_
    refine V.getf (C := RX5) (T := TX5) (N := 17) (ref := "GlassSpillModel") E 0 5 5 (by decide +kernel) rfl rfl (by decide) (by decide +kernel) rfl rfl dX5_works_14 ?_
    refine V.iload_n E dX5_works_17 rfl rfl ?_
    refine V.aload_n E dX5_works_18 rfl rfl ?_
    refine V.aload_n E dX5_works_19 rfl rfl ?_
    refine V.getf (C := RX5) (T := TX5) (N := 17) (ref := "GlassSpillModel") E 0 5 0 (by decide +kernel) rfl rfl (by decide) (by decide +kernel) rfl rfl dX5_works_20 ?_
    refine V.bipush (v := nI (7)) E dX5_works_23 (by decide) ?_
    refine V.iload_n E dX5_works_25 rfl rfl ?_
    refine V.iaddN E  dX5_works_26 ?_
    refine V.ialdN (v := nI (scF x i7)) E 1 rfl (by omega) (by decide) (congrArg nI (fla_F _ (by omega))) dX5_works_27 ?_
    refine V.aload_n E dX5_works_28 rfl rfl ?_
    refine V.getf (C := RX5) (T := TX5) (N := 17) (ref := "GlassSpillModel") E 0 5 0 (by decide +kernel) rfl rfl (by decide) (by decide +kernel) rfl rfl dX5_works_29 ?_
    refine V.bipush (v := nI (6)) E dX5_works_32 (by decide) ?_
    refine V.ialdN (v := nI (scC x)) E 1 rfl (by omega) (by decide) (congrArg nI (fla_C _)) dX5_works_34 ?_
    refine V.callS E (c_X5_distanceOf G (scF x i7) (scC x) (hx.f _ (by omega)) (hx.c)) (bl [mdW G a (fla x) hi sl sv (mxn i7 (rawF x) r) o k t m e w tx cl hl tl sp rd]) [.ref (a 0), .int (nI (i7)), .ref (a 5)] gX5_works_X5_distanceOf rfl hd_X5_distanceOf ⟨⟨Nat.le_of_ble_eq_true rfl, Nat.le_of_ble_eq_true rfl⟩, Nat.le_of_ble_eq_true rfl, Nat.le_of_ble_eq_true rfl⟩ rfl (Nat.le_of_ble_eq_true rfl) rfl dX5_works_35 (List.Perm.refl _) (kc' := 0) (ks' := 0) rfl rfl (rwI (ws' := (bl [mdW G a (fla x) hi sl sv (mxn i7 (rawF x) r) o k t m e w tx cl hl tl sp rd])) (List.Perm.refl _) ?_)
    refine V.callV (C := RX5) E (c_X5_rawOf G a hi sl sv (mxn i7 (rawF x) r) o k t m e w tx cl hl tl sp rd x (dist (scF x i7) (scC x)) (hx) (dist_le _ _)) (bl []) [.int (nI (i7)), .ref (a 5)] 0 5 rfl rfl rfl gX5_works_X5_rawOf rfl ⟨rfl, hd_X5_rawOf⟩ ⟨⟨Nat.le_of_ble_eq_true rfl, Nat.le_of_ble_eq_true rfl⟩, Nat.le_of_ble_eq_true rfl, Nat.le_of_ble_eq_true rfl⟩ rfl (Nat.le_of_ble_eq_true rfl) rfl dX5_works_38 (pBs (n := 1) [mdW G a (fla x) hi sl sv (mxn i7 (rawF x) r) o k t m e w tx cl hl tl sp rd] [0] [] rfl (by decide)) (kc' := 0) (ks' := 0) rfl rfl (rwI (ws' := (bl [mdW G a (fla x) hi sl sv (mxn i7 (rawF x) r) o k t m e w tx cl hl tl sp rd])) (pBs (n := 1) [mdW G a (fla x) hi sl sv (mxn i7 (rawF x) r) o k t m e w tx cl hl tl sp rd] [0] [] rfl (by decide)).symm ?_)
    refine V.iastN (f' := nA (mxn (i7 + 1) (rawF x) r)) (ws' := (bl [mdW G a (fla x) hi sl sv (mxn (i7 + 1) (rawF x) r) o k t m e w tx cl hl tl sp rd])) E 5 rfl (by omega) (by decide) dX5_works_41 (fun j _ => mxn_u rfl j) rfl ?_
    refine V.iincN (lv' := [some (.ref (a 0)), some (.int (nI (mainP (scC x)))), some (.int (nI (i7 + 1)))]) E dX5_works_42 rfl (Nat.le_of_ble_eq_true rfl) rfl rfl ?_
    refine V.goto (tgt := 7) E dX5_works_45 (by decide) ?_
    exact ih_7 (by omega)
abbrev rm_c_X5_marked : Room := { frames := 0, cells := 0, slots := 0, locals := 0 }
theorem hd_X5_marked : yX5_marked.cls ≠ "java/lang/invoke/MethodHandle" ∧ yX5_marked.cls ≠ "java/lang/invoke/VarHandle" ∧ (parseMethodDescriptor yX5_marked.desc).map (fun d => d.parameters.length) = some 0 := by decide +kernel
set_option maxRecDepth 100000 in
set_option maxHeartbeats 8000000 in
theorem c_X5_marked (G : VC) (a : Nat → Nat) (hi : Nat → Nat) (sl : Nat → Nat) (sv : Nat → Nat) (r : Nat → Nat) (o : Nat → Nat) (k : Nat → Nat) (t : Nat → Nat) (m : Nat → Nat) (e : Nat → Nat) (w : Nat → Nat) (tx : Nat → Nat) (cl : Nat → Int32) (hl : Nat) (tl : Nat) (sp : Nat) (rd : Nat) (x : SC) : Ctr yX5_marked wsX5_marked rm_c_X5_marked G [.ref (a 0)] (bl [mdW G a (fla x) hi sl sv r o k t m e w tx cl hl tl sp rd]) (fun v9_ u9_ => u9_ = (bl [mdW G a (fla x) hi sl sv r o k t m e w tx cl hl tl sp rd]) ∧ v9_ = some (.int (nI (sumN 48 (scG x))))) := by
  refine Ctr.int (cc := cX5_marked) (maxL := 3) (ret := (some .int)) (lv0 := [some (.ref (a 0)), none, none]) (by decide) rfl rfl rfl (Nat.le_of_ble_eq_true rfl) rfl (fun A X E hend => ?_)
  refine V.iconst (v := nI (0)) E dX5_marked_0 (by decide) ?_
  refine V.istore_n (lv' := [some (.ref (a 0)), some (.int (nI (0))), none]) E dX5_marked_1 rfl (Nat.le_of_ble_eq_true rfl) rfl rfl ?_
  refine V.iconst (v := nI (0)) E dX5_marked_2 (by decide) ?_
  refine V.istore_n (lv' := [some (.ref (a 0)), some (.int (nI (0))), some (.int (nI (0)))]) E dX5_marked_3 rfl (Nat.le_of_ble_eq_true rfl) rfl rfl ?_
  refine V.locN (b := sumN 0 (scG x)) (lv' := [some (.ref (a 0)), some (.int (nI (sumN 0 (scG x)))), some (.int (nI (0)))]) 1 (rfl) rfl rfl ?_
  refine loopN (P := fun i4 => V G A X rm_c_X5_marked (bl [mdW G a (fla x) hi sl sv r o k t m e w tx cl hl tl sp rd]) 0 0 4 [some (.ref (a 0)), some (.int (nI (sumN i4 (scG x)))), some (.int (nI (i4)))] []) 48 (fun i4 hi_4 ih_4 => ?_) 0 (Nat.zero_le _)
  refine V.iload_n E dX5_marked_4 rfl rfl ?_
  refine V.bipush (v := nI (48)) E dX5_marked_5 (by decide) ?_
  refine V.icmp_geN (tgt := 28) E (by omega) (by omega) dX5_marked_7 (by decide) (fun q_7 => ?_) (fun q_7 => ?_)
  · obtain rfl : i4 = 48 := by omega
    refine V.iload_n E dX5_marked_28 rfl rfl ?_
    exact hend _ _ _ _ dX5_marked_29 (nrI _) ⟨rfl, rfl⟩
  · refine V.iload_n E dX5_marked_10 rfl rfl ?_
    refine V.aload_n E dX5_marked_11 rfl rfl ?_
    refine V.getf (C := RX5) (T := TX5) (N := 17) (ref := "GlassSpillModel") E 0 5 0 (by decide +kernel) rfl rfl (by decide) (by decide +kernel) rfl rfl dX5_marked_12 ?_
    refine V.bipush (v := nI (103)) E dX5_marked_15 (by decide) ?_
    refine V.iload_n E dX5_marked_17 rfl rfl ?_
    refine V.iaddN E  dX5_marked_18 ?_
    refine V.ialdN (v := nI (scG x i4)) E 1 rfl (by omega) (by decide) (congrArg nI (fla_G _ (by omega))) dX5_marked_19 ?_
    refine V.iaddN E  dX5_marked_20 ?_
    refine V.istore_n (lv' := [some (.ref (a 0)), some (.int (nI ((sumN i4 (scG x)) + (scG x i4)))), some (.int (nI (i4)))]) E dX5_marked_21 rfl (Nat.le_of_ble_eq_true rfl) rfl rfl ?_
    refine V.iincN (lv' := [some (.ref (a 0)), some (.int (nI ((sumN i4 (scG x)) + (scG x i4)))), some (.int (nI (i4 + 1)))]) E dX5_marked_22 rfl (Nat.le_of_ble_eq_true rfl) rfl rfl ?_
    refine V.goto (tgt := 4) E dX5_marked_25 (by decide) ?_
    refine V.locN (b := sumN (i4 + 1) (scG x)) (lv' := [some (.ref (a 0)), some (.int (nI (sumN (i4 + 1) (scG x)))), some (.int (nI (i4 + 1)))]) 1 (rfl) rfl rfl ?_
    exact ih_4 (by omega)
abbrev rm_c_X5_ofKind : Room := { frames := 0, cells := 0, slots := 0, locals := 0 }
theorem hd_X5_ofKind : yX5_ofKind.cls ≠ "java/lang/invoke/MethodHandle" ∧ yX5_ofKind.cls ≠ "java/lang/invoke/VarHandle" ∧ (parseMethodDescriptor yX5_ofKind.desc).map (fun d => d.parameters.length) = some 1 := by decide +kernel
set_option maxRecDepth 100000 in
set_option maxHeartbeats 8000000 in
theorem c_X5_ofKind (G : VC) (a : Nat → Nat) (al : Nat → Nat) (hi : Nat → Nat) (sl : Nat → Nat) (sv : Nat → Nat) (r : Nat → Nat) (o : Nat → Nat) (k : Nat → Nat) (t : Nat → Nat) (m : Nat → Nat) (e : Nat → Nat) (w : Nat → Nat) (tx : Nat → Nat) (cl : Nat → Int32) (hl : Nat) (tl : Nat) (sp : Nat) (rd : Nat) (kd : Nat) (hk : ∀ j, j < 48 → k j ≤ 4) (hd : kd < 5) : Ctr yX5_ofKind wsX5_ofKind rm_c_X5_ofKind G [.ref (a 0), .int (nI (kd))] (bl [mdW G a al hi sl sv r o k t m e w tx cl hl tl sp rd]) (fun v9_ u9_ => u9_ = (bl [mdW G a al hi sl sv r o k t m e w tx cl hl tl sp rd]) ∧ v9_ = some (.int (nI (sumN 48 (fun j => bN (decide (k j = kd))))))) := by
  refine Ctr.int (cc := cX5_ofKind) (maxL := 4) (ret := (some .int)) (lv0 := [some (.ref (a 0)), some (.int (nI (kd))), none, none]) (by decide) rfl rfl rfl (Nat.le_of_ble_eq_true rfl) rfl (fun A X E hend => ?_)
  refine V.iconst (v := nI (0)) E dX5_ofKind_0 (by decide) ?_
  refine V.istore_n (lv' := [some (.ref (a 0)), some (.int (nI (kd))), some (.int (nI (0))), none]) E dX5_ofKind_1 rfl (Nat.le_of_ble_eq_true rfl) rfl rfl ?_
  refine V.iconst (v := nI (0)) E dX5_ofKind_2 (by decide) ?_
  refine V.istore_n (lv' := [some (.ref (a 0)), some (.int (nI (kd))), some (.int (nI (0))), some (.int (nI (0)))]) E dX5_ofKind_3 rfl (Nat.le_of_ble_eq_true rfl) rfl rfl ?_
  refine V.locN (b := sumN 0 (fun j => bN (decide (k j = kd)))) (lv' := [some (.ref (a 0)), some (.int (nI (kd))), some (.int (nI (sumN 0 (fun j => bN (decide (k j = kd)))))), some (.int (nI (0)))]) 2 (rfl) rfl rfl ?_
  refine loopN (P := fun i4 => V G A X rm_c_X5_ofKind (bl [mdW G a al hi sl sv r o k t m e w tx cl hl tl sp rd]) 0 0 4 [some (.ref (a 0)), some (.int (nI (kd))), some (.int (nI (sumN i4 (fun j => bN (decide (k j = kd)))))), some (.int (nI (i4)))] []) 48 (fun i4 hi_4 ih_4 => ?_) 0 (Nat.zero_le _)
  refine V.iload_n E dX5_ofKind_4 rfl rfl ?_
  refine V.bipush (v := nI (48)) E dX5_ofKind_5 (by decide) ?_
  refine V.icmp_geN (tgt := 34) E (by omega) (by omega) dX5_ofKind_7 (by decide) (fun q_7 => ?_) (fun q_7 => ?_)
  · obtain rfl : i4 = 48 := by omega
    refine V.iload_n E dX5_ofKind_34 rfl rfl ?_
    exact hend _ _ _ _ dX5_ofKind_35 (nrI _) ⟨rfl, rfl⟩
  · refine V.iload_n E dX5_ofKind_10 rfl rfl ?_
    refine V.aload_n E dX5_ofKind_11 rfl rfl ?_
    refine V.getf (C := RX5) (T := TX5) (N := 17) (ref := "GlassSpillModel") E 0 5 7 (by decide +kernel) rfl rfl (by decide) (by decide +kernel) rfl rfl dX5_ofKind_12 ?_
    refine V.iload_n E dX5_ofKind_15 rfl rfl ?_
    refine V.ialdN (v := nI (k i4)) E 7 rfl (by omega) (by decide) (rfl) dX5_ofKind_16 ?_
    refine V.iload_n E dX5_ofKind_17 rfl rfl ?_
    refine V.icmp_neN (tgt := 25) E (Nat.lt_of_le_of_lt (hk _ (by omega)) (by decide)) (by omega) dX5_ofKind_18 (by decide) (fun q_18 => ?_) (fun q_18 => ?_)
    · refine V.iconst (v := nI (0)) E dX5_ofKind_25 (by decide) ?_
      refine V.iaddN E  dX5_ofKind_26 ?_
      refine V.istore_n (lv' := [some (.ref (a 0)), some (.int (nI (kd))), some (.int (nI ((sumN i4 (fun j => bN (decide (k j = kd)))) + 0))), some (.int (nI (i4)))]) E dX5_ofKind_27 rfl (Nat.le_of_ble_eq_true rfl) rfl rfl ?_
      refine V.iincN (lv' := [some (.ref (a 0)), some (.int (nI (kd))), some (.int (nI ((sumN i4 (fun j => bN (decide (k j = kd)))) + 0))), some (.int (nI (i4 + 1)))]) E dX5_ofKind_28 rfl (Nat.le_of_ble_eq_true rfl) rfl rfl ?_
      refine V.goto (tgt := 4) E dX5_ofKind_31 (by decide) ?_
      refine V.locN (b := sumN (i4 + 1) (fun j => bN (decide (k j = kd)))) (lv' := [some (.ref (a 0)), some (.int (nI (kd))), some (.int (nI (sumN (i4 + 1) (fun j => bN (decide (k j = kd)))))), some (.int (nI (i4 + 1)))]) 2 (by simp [sumN, bN, q_18]) rfl rfl ?_
      exact ih_4 (by omega)
    · refine V.iconst (v := nI (1)) E dX5_ofKind_21 (by decide) ?_
      refine V.goto (tgt := 26) E dX5_ofKind_22 (by decide) ?_
      refine V.iaddN E  dX5_ofKind_26 ?_
      refine V.istore_n (lv' := [some (.ref (a 0)), some (.int (nI (kd))), some (.int (nI ((sumN i4 (fun j => bN (decide (k j = kd)))) + 1))), some (.int (nI (i4)))]) E dX5_ofKind_27 rfl (Nat.le_of_ble_eq_true rfl) rfl rfl ?_
      refine V.iincN (lv' := [some (.ref (a 0)), some (.int (nI (kd))), some (.int (nI ((sumN i4 (fun j => bN (decide (k j = kd)))) + 1))), some (.int (nI (i4 + 1)))]) E dX5_ofKind_28 rfl (Nat.le_of_ble_eq_true rfl) rfl rfl ?_
      refine V.goto (tgt := 4) E dX5_ofKind_31 (by decide) ?_
      refine V.locN (b := sumN (i4 + 1) (fun j => bN (decide (k j = kd)))) (lv' := [some (.ref (a 0)), some (.int (nI (kd))), some (.int (nI (sumN (i4 + 1) (fun j => bN (decide (k j = kd)))))), some (.int (nI (i4 + 1)))]) 2 (by simp [sumN, bN, q_18]) rfl rfl ?_
      exact ih_4 (by omega)
abbrev rm_c_X5_spillLeft : Room := { frames := 2, cells := 0, slots := 0, locals := 43 }
theorem hd_X5_spillLeft : yX5_spillLeft.cls ≠ "java/lang/invoke/MethodHandle" ∧ yX5_spillLeft.cls ≠ "java/lang/invoke/VarHandle" ∧ (parseMethodDescriptor yX5_spillLeft.desc).map (fun d => d.parameters.length) = some 0 := by decide +kernel
set_option maxRecDepth 100000 in
set_option maxHeartbeats 8000000 in
theorem c_X5_spillLeft (G : VC) (a : Nat → Nat) (hi : Nat → Nat) (sl : Nat → Nat) (sv : Nat → Nat) (r : Nat → Nat) (o : Nat → Nat) (k : Nat → Nat) (t : Nat → Nat) (m : Nat → Nat) (e : Nat → Nat) (w : Nat → Nat) (tx : Nat → Nat) (cl : Nat → Int32) (hl : Nat) (tl : Nat) (sp : Nat) (rd : Nat) (x : SC) (hx : SInv x) (hm : ∀ j, j < 48 → m j < 4096) : Ctr yX5_spillLeft wsX5_spillLeft rm_c_X5_spillLeft G [.ref (a 0)] (bl [mdW G a (fla x) hi sl sv r o k t m e w tx cl hl tl sp rd]) (fun v9_ u9_ => u9_ = (bl [mdW G a (fla x) hi sl sv r o k t m e w tx cl hl tl sp rd]) ∧ v9_ = some (.int (nI (sumN 48 (fun j => spl (m j) (mainP (scC x))))))) := by
  refine Ctr.int (cc := cX5_spillLeft) (maxL := 4) (ret := (some .int)) (lv0 := [some (.ref (a 0)), none, none, none]) (by decide) rfl rfl rfl (Nat.le_of_ble_eq_true rfl) rfl (fun A X E hend => ?_)
  refine V.aload_n E dX5_spillLeft_0 rfl rfl ?_
  refine V.callV (C := RX5) E (c_X5_mainPart G a hi sl sv r o k t m e w tx cl hl tl sp rd x (hx)) (bl []) [] 0 5 rfl rfl rfl gX5_spillLeft_X5_mainPart rfl ⟨rfl, hd_X5_mainPart⟩ ⟨⟨Nat.le_of_ble_eq_true rfl, Nat.le_of_ble_eq_true rfl⟩, Nat.le_of_ble_eq_true rfl, Nat.le_of_ble_eq_true rfl⟩ rfl (Nat.le_of_ble_eq_true rfl) rfl dX5_spillLeft_1 (pBs (n := 1) [mdW G a (fla x) hi sl sv r o k t m e w tx cl hl tl sp rd] [0] [] rfl (by decide)) (kc' := 0) (ks' := 0) rfl rfl (rwI (ws' := (bl [mdW G a (fla x) hi sl sv r o k t m e w tx cl hl tl sp rd])) (pBs (n := 1) [mdW G a (fla x) hi sl sv r o k t m e w tx cl hl tl sp rd] [0] [] rfl (by decide)).symm ?_)
  refine V.istore_n (lv' := [some (.ref (a 0)), some (.int (nI (mainP (scC x)))), none, none]) E dX5_spillLeft_4 rfl (Nat.le_of_ble_eq_true rfl) rfl rfl ?_
  refine V.iconst (v := nI (0)) E dX5_spillLeft_5 (by decide) ?_
  refine V.istore_n (lv' := [some (.ref (a 0)), some (.int (nI (mainP (scC x)))), some (.int (nI (0))), none]) E dX5_spillLeft_6 rfl (Nat.le_of_ble_eq_true rfl) rfl rfl ?_
  refine V.iconst (v := nI (0)) E dX5_spillLeft_7 (by decide) ?_
  refine V.istore_n (lv' := [some (.ref (a 0)), some (.int (nI (mainP (scC x)))), some (.int (nI (0))), some (.int (nI (0)))]) E dX5_spillLeft_8 rfl (Nat.le_of_ble_eq_true rfl) rfl rfl ?_
  refine V.locN (b := sumN 0 (fun j => spl (m j) (mainP (scC x)))) (lv' := [some (.ref (a 0)), some (.int (nI (mainP (scC x)))), some (.int (nI (sumN 0 (fun j => spl (m j) (mainP (scC x)))))), some (.int (nI (0)))]) 2 (rfl) rfl rfl ?_
  refine loopN (P := fun i9 => V G A X rm_c_X5_spillLeft (bl [mdW G a (fla x) hi sl sv r o k t m e w tx cl hl tl sp rd]) 0 0 9 [some (.ref (a 0)), some (.int (nI (mainP (scC x)))), some (.int (nI (sumN i9 (fun j => spl (m j) (mainP (scC x)))))), some (.int (nI (i9)))] []) 48 (fun i9 hi_9 ih_9 => ?_) 0 (Nat.zero_le _)
  refine V.iload_n E dX5_spillLeft_9 rfl rfl ?_
  refine V.bipush (v := nI (48)) E dX5_spillLeft_10 (by decide) ?_
  refine V.icmp_geN (tgt := 34) E (by omega) (by omega) dX5_spillLeft_12 (by decide) (fun q_12 => ?_) (fun q_12 => ?_)
  · obtain rfl : i9 = 48 := by omega
    refine V.iload_n E dX5_spillLeft_34 rfl rfl ?_
    exact hend _ _ _ _ dX5_spillLeft_35 (nrI _) ⟨rfl, rfl⟩
  · refine V.iload_n E dX5_spillLeft_15 rfl rfl ?_
    refine V.aload_n E dX5_spillLeft_16 rfl rfl ?_
    refine V.getf (C := RX5) (T := TX5) (N := 17) (ref := "GlassSpillModel") E 0 5 9 (by decide +kernel) rfl rfl (by decide) (by decide +kernel) rfl rfl dX5_spillLeft_17 ?_
    refine V.iload_n E dX5_spillLeft_20 rfl rfl ?_
    refine V.ialdN (v := nI (m i9)) E 9 rfl (by omega) (by decide) (rfl) dX5_spillLeft_21 ?_
    refine V.iload_n E dX5_spillLeft_22 rfl rfl ?_
    refine V.callS E (c_X5_spillOf G (m i9) (mainP (scC x)) (hm _ (by omega)) (mainP_lt _)) (bl [mdW G a (fla x) hi sl sv r o k t m e w tx cl hl tl sp rd]) [.int (nI (sumN i9 (fun j => spl (m j) (mainP (scC x)))))] gX5_spillLeft_X5_spillOf rfl hd_X5_spillOf ⟨⟨Nat.le_of_ble_eq_true rfl, Nat.le_of_ble_eq_true rfl⟩, Nat.le_of_ble_eq_true rfl, Nat.le_of_ble_eq_true rfl⟩ rfl (Nat.le_of_ble_eq_true rfl) rfl dX5_spillLeft_23 (List.Perm.refl _) (kc' := 0) (ks' := 0) rfl rfl (rwI (ws' := (bl [mdW G a (fla x) hi sl sv r o k t m e w tx cl hl tl sp rd])) (List.Perm.refl _) ?_)
    refine V.iaddN E  dX5_spillLeft_26 ?_
    refine V.istore_n (lv' := [some (.ref (a 0)), some (.int (nI (mainP (scC x)))), some (.int (nI ((sumN i9 (fun j => spl (m j) (mainP (scC x)))) + (spl (m i9) (mainP (scC x)))))), some (.int (nI (i9)))]) E dX5_spillLeft_27 rfl (Nat.le_of_ble_eq_true rfl) rfl rfl ?_
    refine V.iincN (lv' := [some (.ref (a 0)), some (.int (nI (mainP (scC x)))), some (.int (nI ((sumN i9 (fun j => spl (m j) (mainP (scC x)))) + (spl (m i9) (mainP (scC x)))))), some (.int (nI (i9 + 1)))]) E dX5_spillLeft_28 rfl (Nat.le_of_ble_eq_true rfl) rfl rfl ?_
    refine V.goto (tgt := 9) E dX5_spillLeft_31 (by decide) ?_
    refine V.locN (b := sumN (i9 + 1) (fun j => spl (m j) (mainP (scC x)))) (lv' := [some (.ref (a 0)), some (.int (nI (mainP (scC x)))), some (.int (nI (sumN (i9 + 1) (fun j => spl (m j) (mainP (scC x)))))), some (.int (nI (i9 + 1)))]) 2 (rfl) rfl rfl ?_
    exact ih_9 (by omega)
noncomputable def ovf (x : SC) (w : Nat) (j : Nat) : Nat := if w = 12 then opqF x j else if w = 13 then splF x j else if w = 14 then tknF x j else if w = 15 then bN (!decide (opqF x j = rawF x j)) else if w = 16 then bN (decide (cmpF x j = scB x j)) else bN (decide (cmpF x j = scF x j))
abbrev rm_c_X5_over : Room := { frames := 2, cells := 0, slots := 0, locals := 43 }
theorem hd_X5_over : yX5_over.cls ≠ "java/lang/invoke/MethodHandle" ∧ yX5_over.cls ≠ "java/lang/invoke/VarHandle" ∧ (parseMethodDescriptor yX5_over.desc).map (fun d => d.parameters.length) = some 1 := by decide +kernel
set_option maxRecDepth 100000 in
set_option maxHeartbeats 8000000 in
theorem c_X5_over (G : VC) (a : Nat → Nat) (hi : Nat → Nat) (sl : Nat → Nat) (sv : Nat → Nat) (e : Nat → Nat) (w : Nat → Nat) (tx : Nat → Nat) (cl : Nat → Int32) (hl : Nat) (tl : Nat) (sp : Nat) (rd : Nat) (x : SC) (w_ : Nat) (hx : SInv x) (hw : 12 ≤ w_ ∧ w_ ≤ 17) : Ctr yX5_over wsX5_over rm_c_X5_over G [.ref (a 0), .int (nI (w_))] (bl [mdW G a (fla x) hi sl sv (rawF x) (opqF x) (kndF x) (tknF x) (cmpF x) e w tx cl hl tl sp rd]) (fun v9_ u9_ => u9_ = (bl [mdW G a (fla x) hi sl sv (rawF x) (opqF x) (kndF x) (tknF x) (cmpF x) e w tx cl hl tl sp rd]) ∧ v9_ = some (.int (nI (sumN 48 (ovf x w_))))) := by
  refine Ctr.int (cc := cX5_over) (maxL := 6) (ret := (some .int)) (lv0 := [some (.ref (a 0)), some (.int (nI (w_))), none, none, none, none]) (by decide) rfl rfl rfl (Nat.le_of_ble_eq_true rfl) rfl (fun A X E hend => ?_)
  rcases (show w_ = 12 ∨ w_ = 13 ∨ w_ = 14 ∨ w_ = 15 ∨ w_ = 16 ∨ w_ = 17 by omega) with rfl | rfl | rfl | rfl | rfl | rfl
  · refine V.aload_n E dX5_over_0 rfl rfl ?_
    refine V.callV (C := RX5) E (c_X5_mainPart G a hi sl sv (rawF x) (opqF x) (kndF x) (tknF x) (cmpF x) e w tx cl hl tl sp rd x (hx)) (bl []) [] 0 5 rfl rfl rfl gX5_over_X5_mainPart rfl ⟨rfl, hd_X5_mainPart⟩ ⟨⟨Nat.le_of_ble_eq_true rfl, Nat.le_of_ble_eq_true rfl⟩, Nat.le_of_ble_eq_true rfl, Nat.le_of_ble_eq_true rfl⟩ rfl (Nat.le_of_ble_eq_true rfl) rfl dX5_over_1 (pBs (n := 1) [mdW G a (fla x) hi sl sv (rawF x) (opqF x) (kndF x) (tknF x) (cmpF x) e w tx cl hl tl sp rd] [0] [] rfl (by decide)) (kc' := 0) (ks' := 0) rfl rfl (rwI (ws' := (bl [mdW G a (fla x) hi sl sv (rawF x) (opqF x) (kndF x) (tknF x) (cmpF x) e w tx cl hl tl sp rd])) (pBs (n := 1) [mdW G a (fla x) hi sl sv (rawF x) (opqF x) (kndF x) (tknF x) (cmpF x) e w tx cl hl tl sp rd] [0] [] rfl (by decide)).symm ?_)
    refine V.istore_n (lv' := [some (.ref (a 0)), some (.int (nI (12))), some (.int (nI (mainP (scC x)))), none, none, none]) E dX5_over_4 rfl (Nat.le_of_ble_eq_true rfl) rfl rfl ?_
    refine V.iconst (v := nI (0)) E dX5_over_5 (by decide) ?_
    refine V.istore_n (lv' := [some (.ref (a 0)), some (.int (nI (12))), some (.int (nI (mainP (scC x)))), some (.int (nI (0))), none, none]) E dX5_over_6 rfl (Nat.le_of_ble_eq_true rfl) rfl rfl ?_
    refine V.iconst (v := nI (0)) E dX5_over_7 (by decide) ?_
    refine V.istore (lv' := [some (.ref (a 0)), some (.int (nI (12))), some (.int (nI (mainP (scC x)))), some (.int (nI (0))), some (.int (nI (0))), none]) E dX5_over_8 (Nat.le_of_ble_eq_true rfl) rfl rfl ?_
    refine V.locN (b := sumN 0 (ovf x 12)) (lv' := [some (.ref (a 0)), some (.int (nI (12))), some (.int (nI (mainP (scC x)))), some (.int (nI (sumN 0 (ovf x 12)))), some (.int (nI (0))), none]) 3 (rfl) rfl rfl ?_
    refine loopN (P := fun i10 => V G A X rm_c_X5_over (bl [mdW G a (fla x) hi sl sv (rawF x) (opqF x) (kndF x) (tknF x) (cmpF x) e w tx cl hl tl sp rd]) 0 0 10 [some (.ref (a 0)), some (.int (nI (12))), some (.int (nI (mainP (scC x)))), some (.int (nI (sumN i10 (ovf x 12)))), some (.int (nI (i10))), none] []) 48 (fun i10 hi_10 ih_10 => ?_) 0 (Nat.zero_le _)
    refine V.iload E dX5_over_10 rfl ?_
    refine V.bipush (v := nI (48)) E dX5_over_12 (by decide) ?_
    refine V.icmp_geN (tgt := 152) E (by omega) (by omega) dX5_over_14 (by decide) (fun q_14 => ?_) (fun q_14 => ?_)
    · obtain rfl : i10 = 48 := by omega
      refine V.iload_n E dX5_over_152 rfl rfl ?_
      exact hend _ _ _ _ dX5_over_153 (nrI _) ⟨rfl, rfl⟩
    · refine V.aload_n E dX5_over_17 rfl rfl ?_
      refine V.getf (C := RX5) (T := TX5) (N := 17) (ref := "GlassSpillModel") E 0 5 0 (by decide +kernel) rfl rfl (by decide) (by decide +kernel) rfl rfl dX5_over_18 ?_
      refine V.bipush (v := nI (7)) E dX5_over_21 (by decide) ?_
      refine V.iload E dX5_over_23 rfl ?_
      refine V.iaddN E  dX5_over_25 ?_
      refine V.ialdN (v := nI (scF x i10)) E 1 rfl (by omega) (by decide) (congrArg nI (fla_F _ (by omega))) dX5_over_26 ?_
      refine V.istore (lv' := [some (.ref (a 0)), some (.int (nI (12))), some (.int (nI (mainP (scC x)))), some (.int (nI (sumN i10 (ovf x 12)))), some (.int (nI (i10))), some (.int (nI (scF x i10)))]) E dX5_over_27 (Nat.le_of_ble_eq_true rfl) rfl rfl ?_
      refine V.iload_n E dX5_over_29 rfl rfl ?_
      refine V.iload_n E dX5_over_30 rfl rfl ?_
      refine V.bipush (v := nI (12)) E dX5_over_31 (by decide) ?_
      refine V.icmp_neN (tgt := 46) E (by omega) (by omega) dX5_over_33 (by decide) (fun q_33 => absurd q_33 (by decide)) (fun q_33 => ?_)
      refine V.aload_n E dX5_over_36 rfl rfl ?_
      refine V.getf (C := RX5) (T := TX5) (N := 17) (ref := "GlassSpillModel") E 0 5 6 (by decide +kernel) rfl rfl (by decide) (by decide +kernel) rfl rfl dX5_over_37 ?_
      refine V.iload E dX5_over_40 rfl ?_
      refine V.ialdN (v := nI ((opqF x) i10)) E 6 rfl (by omega) (by decide) (rfl) dX5_over_42 ?_
      refine V.goto (tgt := 144) E dX5_over_43 (by decide) ?_
      refine V.iaddN E  dX5_over_144 ?_
      refine V.istore_n (lv' := [some (.ref (a 0)), some (.int (nI (12))), some (.int (nI (mainP (scC x)))), some (.int (nI ((sumN i10 (ovf x 12)) + ((opqF x) i10)))), some (.int (nI (i10))), some (.int (nI (scF x i10)))]) E dX5_over_145 rfl (Nat.le_of_ble_eq_true rfl) rfl rfl ?_
      refine V.iincN (lv' := [some (.ref (a 0)), some (.int (nI (12))), some (.int (nI (mainP (scC x)))), some (.int (nI ((sumN i10 (ovf x 12)) + ((opqF x) i10)))), some (.int (nI (i10 + 1))), some (.int (nI (scF x i10)))]) E dX5_over_146 rfl (Nat.le_of_ble_eq_true rfl) rfl rfl ?_
      refine V.goto (tgt := 10) E dX5_over_149 (by decide) ?_
      refine V.drop (lv' := [some (.ref (a 0)), some (.int (nI (12))), some (.int (nI (mainP (scC x)))), some (.int (nI ((sumN i10 (ovf x 12)) + ((opqF x) i10)))), some (.int (nI (i10 + 1))), none]) [true, true, true, true, true, false] rfl ?_
      refine V.locN (b := sumN (i10 + 1) (ovf x 12)) (lv' := [some (.ref (a 0)), some (.int (nI (12))), some (.int (nI (mainP (scC x)))), some (.int (nI (sumN (i10 + 1) (ovf x 12)))), some (.int (nI (i10 + 1))), none]) 3 (rfl) rfl rfl ?_
      exact ih_10 (by omega)
  · refine V.aload_n E dX5_over_0 rfl rfl ?_
    refine V.callV (C := RX5) E (c_X5_mainPart G a hi sl sv (rawF x) (opqF x) (kndF x) (tknF x) (cmpF x) e w tx cl hl tl sp rd x (hx)) (bl []) [] 0 5 rfl rfl rfl gX5_over_X5_mainPart rfl ⟨rfl, hd_X5_mainPart⟩ ⟨⟨Nat.le_of_ble_eq_true rfl, Nat.le_of_ble_eq_true rfl⟩, Nat.le_of_ble_eq_true rfl, Nat.le_of_ble_eq_true rfl⟩ rfl (Nat.le_of_ble_eq_true rfl) rfl dX5_over_1 (pBs (n := 1) [mdW G a (fla x) hi sl sv (rawF x) (opqF x) (kndF x) (tknF x) (cmpF x) e w tx cl hl tl sp rd] [0] [] rfl (by decide)) (kc' := 0) (ks' := 0) rfl rfl (rwI (ws' := (bl [mdW G a (fla x) hi sl sv (rawF x) (opqF x) (kndF x) (tknF x) (cmpF x) e w tx cl hl tl sp rd])) (pBs (n := 1) [mdW G a (fla x) hi sl sv (rawF x) (opqF x) (kndF x) (tknF x) (cmpF x) e w tx cl hl tl sp rd] [0] [] rfl (by decide)).symm ?_)
    refine V.istore_n (lv' := [some (.ref (a 0)), some (.int (nI (13))), some (.int (nI (mainP (scC x)))), none, none, none]) E dX5_over_4 rfl (Nat.le_of_ble_eq_true rfl) rfl rfl ?_
    refine V.iconst (v := nI (0)) E dX5_over_5 (by decide) ?_
    refine V.istore_n (lv' := [some (.ref (a 0)), some (.int (nI (13))), some (.int (nI (mainP (scC x)))), some (.int (nI (0))), none, none]) E dX5_over_6 rfl (Nat.le_of_ble_eq_true rfl) rfl rfl ?_
    refine V.iconst (v := nI (0)) E dX5_over_7 (by decide) ?_
    refine V.istore (lv' := [some (.ref (a 0)), some (.int (nI (13))), some (.int (nI (mainP (scC x)))), some (.int (nI (0))), some (.int (nI (0))), none]) E dX5_over_8 (Nat.le_of_ble_eq_true rfl) rfl rfl ?_
    refine V.locN (b := sumN 0 (ovf x 13)) (lv' := [some (.ref (a 0)), some (.int (nI (13))), some (.int (nI (mainP (scC x)))), some (.int (nI (sumN 0 (ovf x 13)))), some (.int (nI (0))), none]) 3 (rfl) rfl rfl ?_
    refine loopN (P := fun i10 => V G A X rm_c_X5_over (bl [mdW G a (fla x) hi sl sv (rawF x) (opqF x) (kndF x) (tknF x) (cmpF x) e w tx cl hl tl sp rd]) 0 0 10 [some (.ref (a 0)), some (.int (nI (13))), some (.int (nI (mainP (scC x)))), some (.int (nI (sumN i10 (ovf x 13)))), some (.int (nI (i10))), none] []) 48 (fun i10 hi_10 ih_10 => ?_) 0 (Nat.zero_le _)
    refine V.iload E dX5_over_10 rfl ?_
    refine V.bipush (v := nI (48)) E dX5_over_12 (by decide) ?_
    refine V.icmp_geN (tgt := 152) E (by omega) (by omega) dX5_over_14 (by decide) (fun q_14 => ?_) (fun q_14 => ?_)
    · obtain rfl : i10 = 48 := by omega
      refine V.iload_n E dX5_over_152 rfl rfl ?_
      exact hend _ _ _ _ dX5_over_153 (nrI _) ⟨rfl, rfl⟩
    · refine V.aload_n E dX5_over_17 rfl rfl ?_
      refine V.getf (C := RX5) (T := TX5) (N := 17) (ref := "GlassSpillModel") E 0 5 0 (by decide +kernel) rfl rfl (by decide) (by decide +kernel) rfl rfl dX5_over_18 ?_
      refine V.bipush (v := nI (7)) E dX5_over_21 (by decide) ?_
      refine V.iload E dX5_over_23 rfl ?_
      refine V.iaddN E  dX5_over_25 ?_
      refine V.ialdN (v := nI (scF x i10)) E 1 rfl (by omega) (by decide) (congrArg nI (fla_F _ (by omega))) dX5_over_26 ?_
      refine V.istore (lv' := [some (.ref (a 0)), some (.int (nI (13))), some (.int (nI (mainP (scC x)))), some (.int (nI (sumN i10 (ovf x 13)))), some (.int (nI (i10))), some (.int (nI (scF x i10)))]) E dX5_over_27 (Nat.le_of_ble_eq_true rfl) rfl rfl ?_
      refine V.iload_n E dX5_over_29 rfl rfl ?_
      refine V.iload_n E dX5_over_30 rfl rfl ?_
      refine V.bipush (v := nI (12)) E dX5_over_31 (by decide) ?_
      refine V.icmp_neN (tgt := 46) E (by omega) (by omega) dX5_over_33 (by decide) (fun q_33 => ?_) (fun q_33 => absurd q_33 (by decide))
      refine V.iload_n E dX5_over_46 rfl rfl ?_
      refine V.bipush (v := nI (13)) E dX5_over_47 (by decide) ?_
      refine V.icmp_neN (tgt := 61) E (by omega) (by omega) dX5_over_49 (by decide) (fun q_49 => absurd q_49 (by decide)) (fun q_49 => ?_)
      refine V.iload E dX5_over_52 rfl ?_
      refine V.iload_n E dX5_over_54 rfl rfl ?_
      refine V.callS E (c_X5_spillOf G (scF x i10) (mainP (scC x)) (hx.f _ (by omega)) (mainP_lt _)) (bl [mdW G a (fla x) hi sl sv (rawF x) (opqF x) (kndF x) (tknF x) (cmpF x) e w tx cl hl tl sp rd]) [.int (nI (sumN i10 (ovf x 13)))] gX5_over_X5_spillOf rfl hd_X5_spillOf ⟨⟨Nat.le_of_ble_eq_true rfl, Nat.le_of_ble_eq_true rfl⟩, Nat.le_of_ble_eq_true rfl, Nat.le_of_ble_eq_true rfl⟩ rfl (Nat.le_of_ble_eq_true rfl) rfl dX5_over_55 (List.Perm.refl _) (kc' := 0) (ks' := 0) rfl rfl (rwI (ws' := (bl [mdW G a (fla x) hi sl sv (rawF x) (opqF x) (kndF x) (tknF x) (cmpF x) e w tx cl hl tl sp rd])) (List.Perm.refl _) ?_)
      refine V.goto (tgt := 144) E dX5_over_58 (by decide) ?_
      refine V.iaddN E  dX5_over_144 ?_
      refine V.istore_n (lv' := [some (.ref (a 0)), some (.int (nI (13))), some (.int (nI (mainP (scC x)))), some (.int (nI ((sumN i10 (ovf x 13)) + (spl (scF x i10) (mainP (scC x)))))), some (.int (nI (i10))), some (.int (nI (scF x i10)))]) E dX5_over_145 rfl (Nat.le_of_ble_eq_true rfl) rfl rfl ?_
      refine V.iincN (lv' := [some (.ref (a 0)), some (.int (nI (13))), some (.int (nI (mainP (scC x)))), some (.int (nI ((sumN i10 (ovf x 13)) + (spl (scF x i10) (mainP (scC x)))))), some (.int (nI (i10 + 1))), some (.int (nI (scF x i10)))]) E dX5_over_146 rfl (Nat.le_of_ble_eq_true rfl) rfl rfl ?_
      refine V.goto (tgt := 10) E dX5_over_149 (by decide) ?_
      refine V.drop (lv' := [some (.ref (a 0)), some (.int (nI (13))), some (.int (nI (mainP (scC x)))), some (.int (nI ((sumN i10 (ovf x 13)) + (spl (scF x i10) (mainP (scC x)))))), some (.int (nI (i10 + 1))), none]) [true, true, true, true, true, false] rfl ?_
      refine V.locN (b := sumN (i10 + 1) (ovf x 13)) (lv' := [some (.ref (a 0)), some (.int (nI (13))), some (.int (nI (mainP (scC x)))), some (.int (nI (sumN (i10 + 1) (ovf x 13)))), some (.int (nI (i10 + 1))), none]) 3 (rfl) rfl rfl ?_
      exact ih_10 (by omega)
  · refine V.aload_n E dX5_over_0 rfl rfl ?_
    refine V.callV (C := RX5) E (c_X5_mainPart G a hi sl sv (rawF x) (opqF x) (kndF x) (tknF x) (cmpF x) e w tx cl hl tl sp rd x (hx)) (bl []) [] 0 5 rfl rfl rfl gX5_over_X5_mainPart rfl ⟨rfl, hd_X5_mainPart⟩ ⟨⟨Nat.le_of_ble_eq_true rfl, Nat.le_of_ble_eq_true rfl⟩, Nat.le_of_ble_eq_true rfl, Nat.le_of_ble_eq_true rfl⟩ rfl (Nat.le_of_ble_eq_true rfl) rfl dX5_over_1 (pBs (n := 1) [mdW G a (fla x) hi sl sv (rawF x) (opqF x) (kndF x) (tknF x) (cmpF x) e w tx cl hl tl sp rd] [0] [] rfl (by decide)) (kc' := 0) (ks' := 0) rfl rfl (rwI (ws' := (bl [mdW G a (fla x) hi sl sv (rawF x) (opqF x) (kndF x) (tknF x) (cmpF x) e w tx cl hl tl sp rd])) (pBs (n := 1) [mdW G a (fla x) hi sl sv (rawF x) (opqF x) (kndF x) (tknF x) (cmpF x) e w tx cl hl tl sp rd] [0] [] rfl (by decide)).symm ?_)
    refine V.istore_n (lv' := [some (.ref (a 0)), some (.int (nI (14))), some (.int (nI (mainP (scC x)))), none, none, none]) E dX5_over_4 rfl (Nat.le_of_ble_eq_true rfl) rfl rfl ?_
    refine V.iconst (v := nI (0)) E dX5_over_5 (by decide) ?_
    refine V.istore_n (lv' := [some (.ref (a 0)), some (.int (nI (14))), some (.int (nI (mainP (scC x)))), some (.int (nI (0))), none, none]) E dX5_over_6 rfl (Nat.le_of_ble_eq_true rfl) rfl rfl ?_
    refine V.iconst (v := nI (0)) E dX5_over_7 (by decide) ?_
    refine V.istore (lv' := [some (.ref (a 0)), some (.int (nI (14))), some (.int (nI (mainP (scC x)))), some (.int (nI (0))), some (.int (nI (0))), none]) E dX5_over_8 (Nat.le_of_ble_eq_true rfl) rfl rfl ?_
    refine V.locN (b := sumN 0 (ovf x 14)) (lv' := [some (.ref (a 0)), some (.int (nI (14))), some (.int (nI (mainP (scC x)))), some (.int (nI (sumN 0 (ovf x 14)))), some (.int (nI (0))), none]) 3 (rfl) rfl rfl ?_
    refine loopN (P := fun i10 => V G A X rm_c_X5_over (bl [mdW G a (fla x) hi sl sv (rawF x) (opqF x) (kndF x) (tknF x) (cmpF x) e w tx cl hl tl sp rd]) 0 0 10 [some (.ref (a 0)), some (.int (nI (14))), some (.int (nI (mainP (scC x)))), some (.int (nI (sumN i10 (ovf x 14)))), some (.int (nI (i10))), none] []) 48 (fun i10 hi_10 ih_10 => ?_) 0 (Nat.zero_le _)
    refine V.iload E dX5_over_10 rfl ?_
    refine V.bipush (v := nI (48)) E dX5_over_12 (by decide) ?_
    refine V.icmp_geN (tgt := 152) E (by omega) (by omega) dX5_over_14 (by decide) (fun q_14 => ?_) (fun q_14 => ?_)
    · obtain rfl : i10 = 48 := by omega
      refine V.iload_n E dX5_over_152 rfl rfl ?_
      exact hend _ _ _ _ dX5_over_153 (nrI _) ⟨rfl, rfl⟩
    · refine V.aload_n E dX5_over_17 rfl rfl ?_
      refine V.getf (C := RX5) (T := TX5) (N := 17) (ref := "GlassSpillModel") E 0 5 0 (by decide +kernel) rfl rfl (by decide) (by decide +kernel) rfl rfl dX5_over_18 ?_
      refine V.bipush (v := nI (7)) E dX5_over_21 (by decide) ?_
      refine V.iload E dX5_over_23 rfl ?_
      refine V.iaddN E  dX5_over_25 ?_
      refine V.ialdN (v := nI (scF x i10)) E 1 rfl (by omega) (by decide) (congrArg nI (fla_F _ (by omega))) dX5_over_26 ?_
      refine V.istore (lv' := [some (.ref (a 0)), some (.int (nI (14))), some (.int (nI (mainP (scC x)))), some (.int (nI (sumN i10 (ovf x 14)))), some (.int (nI (i10))), some (.int (nI (scF x i10)))]) E dX5_over_27 (Nat.le_of_ble_eq_true rfl) rfl rfl ?_
      refine V.iload_n E dX5_over_29 rfl rfl ?_
      refine V.iload_n E dX5_over_30 rfl rfl ?_
      refine V.bipush (v := nI (12)) E dX5_over_31 (by decide) ?_
      refine V.icmp_neN (tgt := 46) E (by omega) (by omega) dX5_over_33 (by decide) (fun q_33 => ?_) (fun q_33 => absurd q_33 (by decide))
      refine V.iload_n E dX5_over_46 rfl rfl ?_
      refine V.bipush (v := nI (13)) E dX5_over_47 (by decide) ?_
      refine V.icmp_neN (tgt := 61) E (by omega) (by omega) dX5_over_49 (by decide) (fun q_49 => ?_) (fun q_49 => absurd q_49 (by decide))
      refine V.iload_n E dX5_over_61 rfl rfl ?_
      refine V.bipush (v := nI (14)) E dX5_over_62 (by decide) ?_
      refine V.icmp_neN (tgt := 77) E (by omega) (by omega) dX5_over_64 (by decide) (fun q_64 => absurd q_64 (by decide)) (fun q_64 => ?_)
      refine V.aload_n E dX5_over_67 rfl rfl ?_
      refine V.getf (C := RX5) (T := TX5) (N := 17) (ref := "GlassSpillModel") E 0 5 8 (by decide +kernel) rfl rfl (by decide) (by decide +kernel) rfl rfl dX5_over_68 ?_
      refine V.iload E dX5_over_71 rfl ?_
      refine V.ialdN (v := nI ((tknF x) i10)) E 8 rfl (by omega) (by decide) (rfl) dX5_over_73 ?_
      refine V.goto (tgt := 144) E dX5_over_74 (by decide) ?_
      refine V.iaddN E  dX5_over_144 ?_
      refine V.istore_n (lv' := [some (.ref (a 0)), some (.int (nI (14))), some (.int (nI (mainP (scC x)))), some (.int (nI ((sumN i10 (ovf x 14)) + ((tknF x) i10)))), some (.int (nI (i10))), some (.int (nI (scF x i10)))]) E dX5_over_145 rfl (Nat.le_of_ble_eq_true rfl) rfl rfl ?_
      refine V.iincN (lv' := [some (.ref (a 0)), some (.int (nI (14))), some (.int (nI (mainP (scC x)))), some (.int (nI ((sumN i10 (ovf x 14)) + ((tknF x) i10)))), some (.int (nI (i10 + 1))), some (.int (nI (scF x i10)))]) E dX5_over_146 rfl (Nat.le_of_ble_eq_true rfl) rfl rfl ?_
      refine V.goto (tgt := 10) E dX5_over_149 (by decide) ?_
      refine V.drop (lv' := [some (.ref (a 0)), some (.int (nI (14))), some (.int (nI (mainP (scC x)))), some (.int (nI ((sumN i10 (ovf x 14)) + ((tknF x) i10)))), some (.int (nI (i10 + 1))), none]) [true, true, true, true, true, false] rfl ?_
      refine V.locN (b := sumN (i10 + 1) (ovf x 14)) (lv' := [some (.ref (a 0)), some (.int (nI (14))), some (.int (nI (mainP (scC x)))), some (.int (nI (sumN (i10 + 1) (ovf x 14)))), some (.int (nI (i10 + 1))), none]) 3 (rfl) rfl rfl ?_
      exact ih_10 (by omega)
  · refine V.aload_n E dX5_over_0 rfl rfl ?_
    refine V.callV (C := RX5) E (c_X5_mainPart G a hi sl sv (rawF x) (opqF x) (kndF x) (tknF x) (cmpF x) e w tx cl hl tl sp rd x (hx)) (bl []) [] 0 5 rfl rfl rfl gX5_over_X5_mainPart rfl ⟨rfl, hd_X5_mainPart⟩ ⟨⟨Nat.le_of_ble_eq_true rfl, Nat.le_of_ble_eq_true rfl⟩, Nat.le_of_ble_eq_true rfl, Nat.le_of_ble_eq_true rfl⟩ rfl (Nat.le_of_ble_eq_true rfl) rfl dX5_over_1 (pBs (n := 1) [mdW G a (fla x) hi sl sv (rawF x) (opqF x) (kndF x) (tknF x) (cmpF x) e w tx cl hl tl sp rd] [0] [] rfl (by decide)) (kc' := 0) (ks' := 0) rfl rfl (rwI (ws' := (bl [mdW G a (fla x) hi sl sv (rawF x) (opqF x) (kndF x) (tknF x) (cmpF x) e w tx cl hl tl sp rd])) (pBs (n := 1) [mdW G a (fla x) hi sl sv (rawF x) (opqF x) (kndF x) (tknF x) (cmpF x) e w tx cl hl tl sp rd] [0] [] rfl (by decide)).symm ?_)
    refine V.istore_n (lv' := [some (.ref (a 0)), some (.int (nI (15))), some (.int (nI (mainP (scC x)))), none, none, none]) E dX5_over_4 rfl (Nat.le_of_ble_eq_true rfl) rfl rfl ?_
    refine V.iconst (v := nI (0)) E dX5_over_5 (by decide) ?_
    refine V.istore_n (lv' := [some (.ref (a 0)), some (.int (nI (15))), some (.int (nI (mainP (scC x)))), some (.int (nI (0))), none, none]) E dX5_over_6 rfl (Nat.le_of_ble_eq_true rfl) rfl rfl ?_
    refine V.iconst (v := nI (0)) E dX5_over_7 (by decide) ?_
    refine V.istore (lv' := [some (.ref (a 0)), some (.int (nI (15))), some (.int (nI (mainP (scC x)))), some (.int (nI (0))), some (.int (nI (0))), none]) E dX5_over_8 (Nat.le_of_ble_eq_true rfl) rfl rfl ?_
    refine V.locN (b := sumN 0 (ovf x 15)) (lv' := [some (.ref (a 0)), some (.int (nI (15))), some (.int (nI (mainP (scC x)))), some (.int (nI (sumN 0 (ovf x 15)))), some (.int (nI (0))), none]) 3 (rfl) rfl rfl ?_
    refine loopN (P := fun i10 => V G A X rm_c_X5_over (bl [mdW G a (fla x) hi sl sv (rawF x) (opqF x) (kndF x) (tknF x) (cmpF x) e w tx cl hl tl sp rd]) 0 0 10 [some (.ref (a 0)), some (.int (nI (15))), some (.int (nI (mainP (scC x)))), some (.int (nI (sumN i10 (ovf x 15)))), some (.int (nI (i10))), none] []) 48 (fun i10 hi_10 ih_10 => ?_) 0 (Nat.zero_le _)
    refine V.iload E dX5_over_10 rfl ?_
    refine V.bipush (v := nI (48)) E dX5_over_12 (by decide) ?_
    refine V.icmp_geN (tgt := 152) E (by omega) (by omega) dX5_over_14 (by decide) (fun q_14 => ?_) (fun q_14 => ?_)
    · obtain rfl : i10 = 48 := by omega
      refine V.iload_n E dX5_over_152 rfl rfl ?_
      exact hend _ _ _ _ dX5_over_153 (nrI _) ⟨rfl, rfl⟩
    · refine V.aload_n E dX5_over_17 rfl rfl ?_
      refine V.getf (C := RX5) (T := TX5) (N := 17) (ref := "GlassSpillModel") E 0 5 0 (by decide +kernel) rfl rfl (by decide) (by decide +kernel) rfl rfl dX5_over_18 ?_
      refine V.bipush (v := nI (7)) E dX5_over_21 (by decide) ?_
      refine V.iload E dX5_over_23 rfl ?_
      refine V.iaddN E  dX5_over_25 ?_
      refine V.ialdN (v := nI (scF x i10)) E 1 rfl (by omega) (by decide) (congrArg nI (fla_F _ (by omega))) dX5_over_26 ?_
      refine V.istore (lv' := [some (.ref (a 0)), some (.int (nI (15))), some (.int (nI (mainP (scC x)))), some (.int (nI (sumN i10 (ovf x 15)))), some (.int (nI (i10))), some (.int (nI (scF x i10)))]) E dX5_over_27 (Nat.le_of_ble_eq_true rfl) rfl rfl ?_
      refine V.iload_n E dX5_over_29 rfl rfl ?_
      refine V.iload_n E dX5_over_30 rfl rfl ?_
      refine V.bipush (v := nI (12)) E dX5_over_31 (by decide) ?_
      refine V.icmp_neN (tgt := 46) E (by omega) (by omega) dX5_over_33 (by decide) (fun q_33 => ?_) (fun q_33 => absurd q_33 (by decide))
      refine V.iload_n E dX5_over_46 rfl rfl ?_
      refine V.bipush (v := nI (13)) E dX5_over_47 (by decide) ?_
      refine V.icmp_neN (tgt := 61) E (by omega) (by omega) dX5_over_49 (by decide) (fun q_49 => ?_) (fun q_49 => absurd q_49 (by decide))
      refine V.iload_n E dX5_over_61 rfl rfl ?_
      refine V.bipush (v := nI (14)) E dX5_over_62 (by decide) ?_
      refine V.icmp_neN (tgt := 77) E (by omega) (by omega) dX5_over_64 (by decide) (fun q_64 => ?_) (fun q_64 => absurd q_64 (by decide))
      refine V.iload_n E dX5_over_77 rfl rfl ?_
      refine V.bipush (v := nI (15)) E dX5_over_78 (by decide) ?_
      refine V.icmp_neN (tgt := 108) E (by omega) (by omega) dX5_over_80 (by decide) (fun q_80 => absurd q_80 (by decide)) (fun q_80 => ?_)
      refine V.aload_n E dX5_over_83 rfl rfl ?_
      refine V.getf (C := RX5) (T := TX5) (N := 17) (ref := "GlassSpillModel") E 0 5 6 (by decide +kernel) rfl rfl (by decide) (by decide +kernel) rfl rfl dX5_over_84 ?_
      refine V.iload E dX5_over_87 rfl ?_
      refine V.ialdN (v := nI ((opqF x) i10)) E 6 rfl (by omega) (by decide) (rfl) dX5_over_89 ?_
      refine V.aload_n E dX5_over_90 rfl rfl ?_
      refine V.getf (C := RX5) (T := TX5) (N := 17) (ref := "GlassSpillModel") E 0 5 5 (by decide +kernel) rfl rfl (by decide) (by decide +kernel) rfl rfl dX5_over_91 ?_
      refine V.iload E dX5_over_94 rfl ?_
      refine V.ialdN (v := nI ((rawF x) i10)) E 5 rfl (by omega) (by decide) (rfl) dX5_over_96 ?_
      refine V.icmp_neN (tgt := 104) E (Nat.lt_of_le_of_lt (opqF_le x _) (by decide)) (Nat.lt_of_le_of_lt (rawF_le x _) (by decide)) dX5_over_97 (by decide) (fun q_97 => ?_) (fun q_97 => ?_)
      · refine V.iconst (v := nI (1)) E dX5_over_104 (by decide) ?_
        refine V.goto (tgt := 144) E dX5_over_105 (by decide) ?_
        refine V.iaddN E  dX5_over_144 ?_
        refine V.istore_n (lv' := [some (.ref (a 0)), some (.int (nI (15))), some (.int (nI (mainP (scC x)))), some (.int (nI ((sumN i10 (ovf x 15)) + 1))), some (.int (nI (i10))), some (.int (nI (scF x i10)))]) E dX5_over_145 rfl (Nat.le_of_ble_eq_true rfl) rfl rfl ?_
        refine V.iincN (lv' := [some (.ref (a 0)), some (.int (nI (15))), some (.int (nI (mainP (scC x)))), some (.int (nI ((sumN i10 (ovf x 15)) + 1))), some (.int (nI (i10 + 1))), some (.int (nI (scF x i10)))]) E dX5_over_146 rfl (Nat.le_of_ble_eq_true rfl) rfl rfl ?_
        refine V.goto (tgt := 10) E dX5_over_149 (by decide) ?_
        refine V.drop (lv' := [some (.ref (a 0)), some (.int (nI (15))), some (.int (nI (mainP (scC x)))), some (.int (nI ((sumN i10 (ovf x 15)) + 1))), some (.int (nI (i10 + 1))), none]) [true, true, true, true, true, false] rfl ?_
        refine V.locN (b := sumN (i10 + 1) (ovf x 15)) (lv' := [some (.ref (a 0)), some (.int (nI (15))), some (.int (nI (mainP (scC x)))), some (.int (nI (sumN (i10 + 1) (ovf x 15)))), some (.int (nI (i10 + 1))), none]) 3 (by rw [sumN]; show _ = _ + bN (!decide (opqF x i10 = rawF x i10)); simp [bN, q_97]) rfl rfl ?_
        exact ih_10 (by omega)
      · refine V.iconst (v := nI (0)) E dX5_over_100 (by decide) ?_
        refine V.goto (tgt := 144) E dX5_over_101 (by decide) ?_
        refine V.iaddN E  dX5_over_144 ?_
        refine V.istore_n (lv' := [some (.ref (a 0)), some (.int (nI (15))), some (.int (nI (mainP (scC x)))), some (.int (nI ((sumN i10 (ovf x 15)) + 0))), some (.int (nI (i10))), some (.int (nI (scF x i10)))]) E dX5_over_145 rfl (Nat.le_of_ble_eq_true rfl) rfl rfl ?_
        refine V.iincN (lv' := [some (.ref (a 0)), some (.int (nI (15))), some (.int (nI (mainP (scC x)))), some (.int (nI ((sumN i10 (ovf x 15)) + 0))), some (.int (nI (i10 + 1))), some (.int (nI (scF x i10)))]) E dX5_over_146 rfl (Nat.le_of_ble_eq_true rfl) rfl rfl ?_
        refine V.goto (tgt := 10) E dX5_over_149 (by decide) ?_
        refine V.drop (lv' := [some (.ref (a 0)), some (.int (nI (15))), some (.int (nI (mainP (scC x)))), some (.int (nI ((sumN i10 (ovf x 15)) + 0))), some (.int (nI (i10 + 1))), none]) [true, true, true, true, true, false] rfl ?_
        refine V.locN (b := sumN (i10 + 1) (ovf x 15)) (lv' := [some (.ref (a 0)), some (.int (nI (15))), some (.int (nI (mainP (scC x)))), some (.int (nI (sumN (i10 + 1) (ovf x 15)))), some (.int (nI (i10 + 1))), none]) 3 (by rw [sumN]; show _ = _ + bN (!decide (opqF x i10 = rawF x i10)); simp [bN, q_97]) rfl rfl ?_
        exact ih_10 (by omega)
  · refine V.aload_n E dX5_over_0 rfl rfl ?_
    refine V.callV (C := RX5) E (c_X5_mainPart G a hi sl sv (rawF x) (opqF x) (kndF x) (tknF x) (cmpF x) e w tx cl hl tl sp rd x (hx)) (bl []) [] 0 5 rfl rfl rfl gX5_over_X5_mainPart rfl ⟨rfl, hd_X5_mainPart⟩ ⟨⟨Nat.le_of_ble_eq_true rfl, Nat.le_of_ble_eq_true rfl⟩, Nat.le_of_ble_eq_true rfl, Nat.le_of_ble_eq_true rfl⟩ rfl (Nat.le_of_ble_eq_true rfl) rfl dX5_over_1 (pBs (n := 1) [mdW G a (fla x) hi sl sv (rawF x) (opqF x) (kndF x) (tknF x) (cmpF x) e w tx cl hl tl sp rd] [0] [] rfl (by decide)) (kc' := 0) (ks' := 0) rfl rfl (rwI (ws' := (bl [mdW G a (fla x) hi sl sv (rawF x) (opqF x) (kndF x) (tknF x) (cmpF x) e w tx cl hl tl sp rd])) (pBs (n := 1) [mdW G a (fla x) hi sl sv (rawF x) (opqF x) (kndF x) (tknF x) (cmpF x) e w tx cl hl tl sp rd] [0] [] rfl (by decide)).symm ?_)
    refine V.istore_n (lv' := [some (.ref (a 0)), some (.int (nI (16))), some (.int (nI (mainP (scC x)))), none, none, none]) E dX5_over_4 rfl (Nat.le_of_ble_eq_true rfl) rfl rfl ?_
    refine V.iconst (v := nI (0)) E dX5_over_5 (by decide) ?_
    refine V.istore_n (lv' := [some (.ref (a 0)), some (.int (nI (16))), some (.int (nI (mainP (scC x)))), some (.int (nI (0))), none, none]) E dX5_over_6 rfl (Nat.le_of_ble_eq_true rfl) rfl rfl ?_
    refine V.iconst (v := nI (0)) E dX5_over_7 (by decide) ?_
    refine V.istore (lv' := [some (.ref (a 0)), some (.int (nI (16))), some (.int (nI (mainP (scC x)))), some (.int (nI (0))), some (.int (nI (0))), none]) E dX5_over_8 (Nat.le_of_ble_eq_true rfl) rfl rfl ?_
    refine V.locN (b := sumN 0 (ovf x 16)) (lv' := [some (.ref (a 0)), some (.int (nI (16))), some (.int (nI (mainP (scC x)))), some (.int (nI (sumN 0 (ovf x 16)))), some (.int (nI (0))), none]) 3 (rfl) rfl rfl ?_
    refine loopN (P := fun i10 => V G A X rm_c_X5_over (bl [mdW G a (fla x) hi sl sv (rawF x) (opqF x) (kndF x) (tknF x) (cmpF x) e w tx cl hl tl sp rd]) 0 0 10 [some (.ref (a 0)), some (.int (nI (16))), some (.int (nI (mainP (scC x)))), some (.int (nI (sumN i10 (ovf x 16)))), some (.int (nI (i10))), none] []) 48 (fun i10 hi_10 ih_10 => ?_) 0 (Nat.zero_le _)
    refine V.iload E dX5_over_10 rfl ?_
    refine V.bipush (v := nI (48)) E dX5_over_12 (by decide) ?_
    refine V.icmp_geN (tgt := 152) E (by omega) (by omega) dX5_over_14 (by decide) (fun q_14 => ?_) (fun q_14 => ?_)
    · obtain rfl : i10 = 48 := by omega
      refine V.iload_n E dX5_over_152 rfl rfl ?_
      exact hend _ _ _ _ dX5_over_153 (nrI _) ⟨rfl, rfl⟩
    · refine V.aload_n E dX5_over_17 rfl rfl ?_
      refine V.getf (C := RX5) (T := TX5) (N := 17) (ref := "GlassSpillModel") E 0 5 0 (by decide +kernel) rfl rfl (by decide) (by decide +kernel) rfl rfl dX5_over_18 ?_
      refine V.bipush (v := nI (7)) E dX5_over_21 (by decide) ?_
      refine V.iload E dX5_over_23 rfl ?_
      refine V.iaddN E  dX5_over_25 ?_
      refine V.ialdN (v := nI (scF x i10)) E 1 rfl (by omega) (by decide) (congrArg nI (fla_F _ (by omega))) dX5_over_26 ?_
      refine V.istore (lv' := [some (.ref (a 0)), some (.int (nI (16))), some (.int (nI (mainP (scC x)))), some (.int (nI (sumN i10 (ovf x 16)))), some (.int (nI (i10))), some (.int (nI (scF x i10)))]) E dX5_over_27 (Nat.le_of_ble_eq_true rfl) rfl rfl ?_
      refine V.iload_n E dX5_over_29 rfl rfl ?_
      refine V.iload_n E dX5_over_30 rfl rfl ?_
      refine V.bipush (v := nI (12)) E dX5_over_31 (by decide) ?_
      refine V.icmp_neN (tgt := 46) E (by omega) (by omega) dX5_over_33 (by decide) (fun q_33 => ?_) (fun q_33 => absurd q_33 (by decide))
      refine V.iload_n E dX5_over_46 rfl rfl ?_
      refine V.bipush (v := nI (13)) E dX5_over_47 (by decide) ?_
      refine V.icmp_neN (tgt := 61) E (by omega) (by omega) dX5_over_49 (by decide) (fun q_49 => ?_) (fun q_49 => absurd q_49 (by decide))
      refine V.iload_n E dX5_over_61 rfl rfl ?_
      refine V.bipush (v := nI (14)) E dX5_over_62 (by decide) ?_
      refine V.icmp_neN (tgt := 77) E (by omega) (by omega) dX5_over_64 (by decide) (fun q_64 => ?_) (fun q_64 => absurd q_64 (by decide))
      refine V.iload_n E dX5_over_77 rfl rfl ?_
      refine V.bipush (v := nI (15)) E dX5_over_78 (by decide) ?_
      refine V.icmp_neN (tgt := 108) E (by omega) (by omega) dX5_over_80 (by decide) (fun q_80 => ?_) (fun q_80 => absurd q_80 (by decide))
      refine V.aload_n E dX5_over_108 rfl rfl ?_
      refine V.getf (C := RX5) (T := TX5) (N := 17) (ref := "GlassSpillModel") E 0 5 9 (by decide +kernel) rfl rfl (by decide) (by decide +kernel) rfl rfl dX5_over_109 ?_
      refine V.iload E dX5_over_112 rfl ?_
      refine V.ialdN (v := nI ((cmpF x) i10)) E 9 rfl (by omega) (by decide) (rfl) dX5_over_114 ?_
      refine V.iload_n E dX5_over_115 rfl rfl ?_
      refine V.bipush (v := nI (16)) E dX5_over_116 (by decide) ?_
      refine V.icmp_neN (tgt := 134) E (by omega) (by omega) dX5_over_118 (by decide) (fun q_118 => absurd q_118 (by decide)) (fun q_118 => ?_)
      refine V.aload_n E dX5_over_121 rfl rfl ?_
      refine V.getf (C := RX5) (T := TX5) (N := 17) (ref := "GlassSpillModel") E 0 5 0 (by decide +kernel) rfl rfl (by decide) (by decide +kernel) rfl rfl dX5_over_122 ?_
      refine V.bipush (v := nI (55)) E dX5_over_125 (by decide) ?_
      refine V.iload E dX5_over_127 rfl ?_
      refine V.iaddN E  dX5_over_129 ?_
      refine V.ialdN (v := nI (scB x i10)) E 1 rfl (by omega) (by decide) (congrArg nI (fla_B _ (by omega))) dX5_over_130 ?_
      refine V.goto (tgt := 136) E dX5_over_131 (by decide) ?_
      refine V.icmp_neN (tgt := 143) E (Nat.lt_trans (cmpF_lt x _) (by decide)) (Nat.lt_trans (by first | exact hx.b _ (by omega) | exact hx.f _ (by omega)) (by decide)) dX5_over_136 (by decide) (fun q_136 => ?_) (fun q_136 => ?_)
      · refine V.iconst (v := nI (0)) E dX5_over_143 (by decide) ?_
        refine V.iaddN E  dX5_over_144 ?_
        refine V.istore_n (lv' := [some (.ref (a 0)), some (.int (nI (16))), some (.int (nI (mainP (scC x)))), some (.int (nI ((sumN i10 (ovf x 16)) + 0))), some (.int (nI (i10))), some (.int (nI (scF x i10)))]) E dX5_over_145 rfl (Nat.le_of_ble_eq_true rfl) rfl rfl ?_
        refine V.iincN (lv' := [some (.ref (a 0)), some (.int (nI (16))), some (.int (nI (mainP (scC x)))), some (.int (nI ((sumN i10 (ovf x 16)) + 0))), some (.int (nI (i10 + 1))), some (.int (nI (scF x i10)))]) E dX5_over_146 rfl (Nat.le_of_ble_eq_true rfl) rfl rfl ?_
        refine V.goto (tgt := 10) E dX5_over_149 (by decide) ?_
        refine V.drop (lv' := [some (.ref (a 0)), some (.int (nI (16))), some (.int (nI (mainP (scC x)))), some (.int (nI ((sumN i10 (ovf x 16)) + 0))), some (.int (nI (i10 + 1))), none]) [true, true, true, true, true, false] rfl ?_
        refine V.locN (b := sumN (i10 + 1) (ovf x 16)) (lv' := [some (.ref (a 0)), some (.int (nI (16))), some (.int (nI (mainP (scC x)))), some (.int (nI (sumN (i10 + 1) (ovf x 16)))), some (.int (nI (i10 + 1))), none]) 3 (by rw [sumN]; show _ = _ + bN (decide (cmpF x i10 = scB x i10)); simp [bN, q_136]) rfl rfl ?_
        exact ih_10 (by omega)
      · refine V.iconst (v := nI (1)) E dX5_over_139 (by decide) ?_
        refine V.goto (tgt := 144) E dX5_over_140 (by decide) ?_
        refine V.iaddN E  dX5_over_144 ?_
        refine V.istore_n (lv' := [some (.ref (a 0)), some (.int (nI (16))), some (.int (nI (mainP (scC x)))), some (.int (nI ((sumN i10 (ovf x 16)) + 1))), some (.int (nI (i10))), some (.int (nI (scF x i10)))]) E dX5_over_145 rfl (Nat.le_of_ble_eq_true rfl) rfl rfl ?_
        refine V.iincN (lv' := [some (.ref (a 0)), some (.int (nI (16))), some (.int (nI (mainP (scC x)))), some (.int (nI ((sumN i10 (ovf x 16)) + 1))), some (.int (nI (i10 + 1))), some (.int (nI (scF x i10)))]) E dX5_over_146 rfl (Nat.le_of_ble_eq_true rfl) rfl rfl ?_
        refine V.goto (tgt := 10) E dX5_over_149 (by decide) ?_
        refine V.drop (lv' := [some (.ref (a 0)), some (.int (nI (16))), some (.int (nI (mainP (scC x)))), some (.int (nI ((sumN i10 (ovf x 16)) + 1))), some (.int (nI (i10 + 1))), none]) [true, true, true, true, true, false] rfl ?_
        refine V.locN (b := sumN (i10 + 1) (ovf x 16)) (lv' := [some (.ref (a 0)), some (.int (nI (16))), some (.int (nI (mainP (scC x)))), some (.int (nI (sumN (i10 + 1) (ovf x 16)))), some (.int (nI (i10 + 1))), none]) 3 (by rw [sumN]; show _ = _ + bN (decide (cmpF x i10 = scB x i10)); simp [bN, q_136]) rfl rfl ?_
        exact ih_10 (by omega)
  · refine V.aload_n E dX5_over_0 rfl rfl ?_
    refine V.callV (C := RX5) E (c_X5_mainPart G a hi sl sv (rawF x) (opqF x) (kndF x) (tknF x) (cmpF x) e w tx cl hl tl sp rd x (hx)) (bl []) [] 0 5 rfl rfl rfl gX5_over_X5_mainPart rfl ⟨rfl, hd_X5_mainPart⟩ ⟨⟨Nat.le_of_ble_eq_true rfl, Nat.le_of_ble_eq_true rfl⟩, Nat.le_of_ble_eq_true rfl, Nat.le_of_ble_eq_true rfl⟩ rfl (Nat.le_of_ble_eq_true rfl) rfl dX5_over_1 (pBs (n := 1) [mdW G a (fla x) hi sl sv (rawF x) (opqF x) (kndF x) (tknF x) (cmpF x) e w tx cl hl tl sp rd] [0] [] rfl (by decide)) (kc' := 0) (ks' := 0) rfl rfl (rwI (ws' := (bl [mdW G a (fla x) hi sl sv (rawF x) (opqF x) (kndF x) (tknF x) (cmpF x) e w tx cl hl tl sp rd])) (pBs (n := 1) [mdW G a (fla x) hi sl sv (rawF x) (opqF x) (kndF x) (tknF x) (cmpF x) e w tx cl hl tl sp rd] [0] [] rfl (by decide)).symm ?_)
    refine V.istore_n (lv' := [some (.ref (a 0)), some (.int (nI (17))), some (.int (nI (mainP (scC x)))), none, none, none]) E dX5_over_4 rfl (Nat.le_of_ble_eq_true rfl) rfl rfl ?_
    refine V.iconst (v := nI (0)) E dX5_over_5 (by decide) ?_
    refine V.istore_n (lv' := [some (.ref (a 0)), some (.int (nI (17))), some (.int (nI (mainP (scC x)))), some (.int (nI (0))), none, none]) E dX5_over_6 rfl (Nat.le_of_ble_eq_true rfl) rfl rfl ?_
    refine V.iconst (v := nI (0)) E dX5_over_7 (by decide) ?_
    refine V.istore (lv' := [some (.ref (a 0)), some (.int (nI (17))), some (.int (nI (mainP (scC x)))), some (.int (nI (0))), some (.int (nI (0))), none]) E dX5_over_8 (Nat.le_of_ble_eq_true rfl) rfl rfl ?_
    refine V.locN (b := sumN 0 (ovf x 17)) (lv' := [some (.ref (a 0)), some (.int (nI (17))), some (.int (nI (mainP (scC x)))), some (.int (nI (sumN 0 (ovf x 17)))), some (.int (nI (0))), none]) 3 (rfl) rfl rfl ?_
    refine loopN (P := fun i10 => V G A X rm_c_X5_over (bl [mdW G a (fla x) hi sl sv (rawF x) (opqF x) (kndF x) (tknF x) (cmpF x) e w tx cl hl tl sp rd]) 0 0 10 [some (.ref (a 0)), some (.int (nI (17))), some (.int (nI (mainP (scC x)))), some (.int (nI (sumN i10 (ovf x 17)))), some (.int (nI (i10))), none] []) 48 (fun i10 hi_10 ih_10 => ?_) 0 (Nat.zero_le _)
    refine V.iload E dX5_over_10 rfl ?_
    refine V.bipush (v := nI (48)) E dX5_over_12 (by decide) ?_
    refine V.icmp_geN (tgt := 152) E (by omega) (by omega) dX5_over_14 (by decide) (fun q_14 => ?_) (fun q_14 => ?_)
    · obtain rfl : i10 = 48 := by omega
      refine V.iload_n E dX5_over_152 rfl rfl ?_
      exact hend _ _ _ _ dX5_over_153 (nrI _) ⟨rfl, rfl⟩
    · refine V.aload_n E dX5_over_17 rfl rfl ?_
      refine V.getf (C := RX5) (T := TX5) (N := 17) (ref := "GlassSpillModel") E 0 5 0 (by decide +kernel) rfl rfl (by decide) (by decide +kernel) rfl rfl dX5_over_18 ?_
      refine V.bipush (v := nI (7)) E dX5_over_21 (by decide) ?_
      refine V.iload E dX5_over_23 rfl ?_
      refine V.iaddN E  dX5_over_25 ?_
      refine V.ialdN (v := nI (scF x i10)) E 1 rfl (by omega) (by decide) (congrArg nI (fla_F _ (by omega))) dX5_over_26 ?_
      refine V.istore (lv' := [some (.ref (a 0)), some (.int (nI (17))), some (.int (nI (mainP (scC x)))), some (.int (nI (sumN i10 (ovf x 17)))), some (.int (nI (i10))), some (.int (nI (scF x i10)))]) E dX5_over_27 (Nat.le_of_ble_eq_true rfl) rfl rfl ?_
      refine V.iload_n E dX5_over_29 rfl rfl ?_
      refine V.iload_n E dX5_over_30 rfl rfl ?_
      refine V.bipush (v := nI (12)) E dX5_over_31 (by decide) ?_
      refine V.icmp_neN (tgt := 46) E (by omega) (by omega) dX5_over_33 (by decide) (fun q_33 => ?_) (fun q_33 => absurd q_33 (by decide))
      refine V.iload_n E dX5_over_46 rfl rfl ?_
      refine V.bipush (v := nI (13)) E dX5_over_47 (by decide) ?_
      refine V.icmp_neN (tgt := 61) E (by omega) (by omega) dX5_over_49 (by decide) (fun q_49 => ?_) (fun q_49 => absurd q_49 (by decide))
      refine V.iload_n E dX5_over_61 rfl rfl ?_
      refine V.bipush (v := nI (14)) E dX5_over_62 (by decide) ?_
      refine V.icmp_neN (tgt := 77) E (by omega) (by omega) dX5_over_64 (by decide) (fun q_64 => ?_) (fun q_64 => absurd q_64 (by decide))
      refine V.iload_n E dX5_over_77 rfl rfl ?_
      refine V.bipush (v := nI (15)) E dX5_over_78 (by decide) ?_
      refine V.icmp_neN (tgt := 108) E (by omega) (by omega) dX5_over_80 (by decide) (fun q_80 => ?_) (fun q_80 => absurd q_80 (by decide))
      refine V.aload_n E dX5_over_108 rfl rfl ?_
      refine V.getf (C := RX5) (T := TX5) (N := 17) (ref := "GlassSpillModel") E 0 5 9 (by decide +kernel) rfl rfl (by decide) (by decide +kernel) rfl rfl dX5_over_109 ?_
      refine V.iload E dX5_over_112 rfl ?_
      refine V.ialdN (v := nI ((cmpF x) i10)) E 9 rfl (by omega) (by decide) (rfl) dX5_over_114 ?_
      refine V.iload_n E dX5_over_115 rfl rfl ?_
      refine V.bipush (v := nI (16)) E dX5_over_116 (by decide) ?_
      refine V.icmp_neN (tgt := 134) E (by omega) (by omega) dX5_over_118 (by decide) (fun q_118 => ?_) (fun q_118 => absurd q_118 (by decide))
      refine V.iload E dX5_over_134 rfl ?_
      refine V.icmp_neN (tgt := 143) E (Nat.lt_trans (cmpF_lt x _) (by decide)) (Nat.lt_trans (by first | exact hx.b _ (by omega) | exact hx.f _ (by omega)) (by decide)) dX5_over_136 (by decide) (fun q_136 => ?_) (fun q_136 => ?_)
      · refine V.iconst (v := nI (0)) E dX5_over_143 (by decide) ?_
        refine V.iaddN E  dX5_over_144 ?_
        refine V.istore_n (lv' := [some (.ref (a 0)), some (.int (nI (17))), some (.int (nI (mainP (scC x)))), some (.int (nI ((sumN i10 (ovf x 17)) + 0))), some (.int (nI (i10))), some (.int (nI (scF x i10)))]) E dX5_over_145 rfl (Nat.le_of_ble_eq_true rfl) rfl rfl ?_
        refine V.iincN (lv' := [some (.ref (a 0)), some (.int (nI (17))), some (.int (nI (mainP (scC x)))), some (.int (nI ((sumN i10 (ovf x 17)) + 0))), some (.int (nI (i10 + 1))), some (.int (nI (scF x i10)))]) E dX5_over_146 rfl (Nat.le_of_ble_eq_true rfl) rfl rfl ?_
        refine V.goto (tgt := 10) E dX5_over_149 (by decide) ?_
        refine V.drop (lv' := [some (.ref (a 0)), some (.int (nI (17))), some (.int (nI (mainP (scC x)))), some (.int (nI ((sumN i10 (ovf x 17)) + 0))), some (.int (nI (i10 + 1))), none]) [true, true, true, true, true, false] rfl ?_
        refine V.locN (b := sumN (i10 + 1) (ovf x 17)) (lv' := [some (.ref (a 0)), some (.int (nI (17))), some (.int (nI (mainP (scC x)))), some (.int (nI (sumN (i10 + 1) (ovf x 17)))), some (.int (nI (i10 + 1))), none]) 3 (by rw [sumN]; show _ = _ + bN (decide (cmpF x i10 = scF x i10)); simp [bN, q_136]) rfl rfl ?_
        exact ih_10 (by omega)
      · refine V.iconst (v := nI (1)) E dX5_over_139 (by decide) ?_
        refine V.goto (tgt := 144) E dX5_over_140 (by decide) ?_
        refine V.iaddN E  dX5_over_144 ?_
        refine V.istore_n (lv' := [some (.ref (a 0)), some (.int (nI (17))), some (.int (nI (mainP (scC x)))), some (.int (nI ((sumN i10 (ovf x 17)) + 1))), some (.int (nI (i10))), some (.int (nI (scF x i10)))]) E dX5_over_145 rfl (Nat.le_of_ble_eq_true rfl) rfl rfl ?_
        refine V.iincN (lv' := [some (.ref (a 0)), some (.int (nI (17))), some (.int (nI (mainP (scC x)))), some (.int (nI ((sumN i10 (ovf x 17)) + 1))), some (.int (nI (i10 + 1))), some (.int (nI (scF x i10)))]) E dX5_over_146 rfl (Nat.le_of_ble_eq_true rfl) rfl rfl ?_
        refine V.goto (tgt := 10) E dX5_over_149 (by decide) ?_
        refine V.drop (lv' := [some (.ref (a 0)), some (.int (nI (17))), some (.int (nI (mainP (scC x)))), some (.int (nI ((sumN i10 (ovf x 17)) + 1))), some (.int (nI (i10 + 1))), none]) [true, true, true, true, true, false] rfl ?_
        refine V.locN (b := sumN (i10 + 1) (ovf x 17)) (lv' := [some (.ref (a 0)), some (.int (nI (17))), some (.int (nI (mainP (scC x)))), some (.int (nI (sumN (i10 + 1) (ovf x 17)))), some (.int (nI (i10 + 1))), none]) 3 (by rw [sumN]; show _ = _ + bN (decide (cmpF x i10 = scF x i10)); simp [bN, q_136]) rfl rfl ?_
        exact ih_10 (by omega)
