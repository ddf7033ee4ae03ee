/-! the class: painting a text -/
theorem arR_e : ∀ p, p < 48 → ∀ r, r < 48 → arR p r = sumN 48 (fun j => bN (inR p r j)) := by decide +kernel
/-- the value of the first q parts of the colour at s -/
def cpt (tl : Nat) (tx : Nat → Nat) (s : Nat) : Nat → Nat
  | 0 => 0
  | 1 => pv (txc tl tx s)
  | _ => 16 * pv (txc tl tx s) + pv (txc tl tx (s + 1))
def Pi (tx : Nat → Nat) (n i : Nat) (g : Nat × Nat) : Prop := g.1 ≤ n ∧ i = stp tx g.1 + g.2 ∧ g.2 ≤ 2 ∧ (0 < g.2 → ¬ tx (stp tx g.1) = 46)
section
variable {tl : Nat} {tx : Nat → Nat} {n i : Nat} {g : Nat × Nat}
theorem Pi.j (h : Pi tx n i g) (hG : Gd tl tx n) (hi : i < tl) : g.1 < n := by
  rcases Nat.lt_or_ge g.1 n with c | c
  · exact c
  · have e : g.1 = n := Nat.le_antisymm h.1 c
    have h2 := h.2.1
    rw [e, hG.2.1] at h2
    omega
theorem Pi.c (h : Pi tx n i g) (hG : Gd tl tx n) (hi : i < tl) (hd : ¬ tx (stp tx g.1) = 46) : isP (tx i) = true ∧ pv (tx i) = pv (txc tl tx (stp tx g.1 + g.2)) := by
  have hp := (hG.2.2 g.1 (h.j hG hi)).n hd
  have e := h.2.1
  have ei : txc tl tx (stp tx g.1 + g.2) = tx i := by rw [← e]; exact txc_i hi
  rw [← ei]
  refine ⟨?_, rfl⟩
  rcases (show g.2 = 0 ∨ g.2 = 1 ∨ g.2 = 2 by have := h.2.2.1; omega) with z | z | z <;> rw [z]
  · exact hp.1
  · exact hp.2.1
  · exact hp.2.2
theorem Pi.dot (h : Pi tx n i g) (hG : Gd tl tx n) (hi : i < tl) (h46 : tx i = 46) : g.2 = 0 ∧ tx (stp tx g.1) = 46 := by
  have e : g.2 = 0 := by
    rcases Nat.eq_zero_or_pos g.2 with z | z
    · exact z
    · have := (h.c hG hi (h.2.2.2 z)).1
      rw [h46] at this
      exact absurd this (by decide)
  have e2 := h.2.1
  rw [e, Nat.add_zero] at e2
  exact ⟨e, by rw [← e2]; exact h46⟩
theorem Pi.nd (h : Pi tx n i g) (hne : ¬ tx i = 46) : ¬ tx (stp tx g.1) = 46 := by
  rcases Nat.eq_zero_or_pos g.2 with z | z
  · have e2 := h.2.1
    rw [z, Nat.add_zero] at e2
    rw [← e2]; exact hne
  · exact h.2.2.2 z
theorem Pi.nd0 (h : Pi tx n i g) (hG : Gd tl tx n) (hi : i < tl) (h46 : tx i = 46) : Pi tx n (i + 1) (g.1 + 1, 0) := by
  have e := h.dot hG hi h46
  have e2 := h.2.1
  refine ⟨h.j hG hi, ?_, (by decide : 0 ≤ 2), fun z => absurd (show 0 < 0 from z) (by decide)⟩
  show i + 1 = stp tx (g.1 + 1) + 0
  rw [stp, if_pos e.2]
  omega
theorem Pi.n3 (h : Pi tx n i g) (hG : Gd tl tx n) (hi : i < tl) (hne : ¬ tx i = 46) (h3 : g.2 + 1 = 3) : Pi tx n (i + 1) (g.1 + 1, 0) := by
  have e2 := h.2.1
  refine ⟨h.j hG hi, ?_, (by decide : 0 ≤ 2), fun z => absurd (show 0 < 0 from z) (by decide)⟩
  show i + 1 = stp tx (g.1 + 1) + 0
  rw [stp, if_neg (h.nd hne)]
  omega
theorem Pi.n1 (h : Pi tx n i g) (hne : ¬ tx i = 46) (h3 : g.2 + 1 ≠ 3) : Pi tx n (i + 1) (g.1, g.2 + 1) := by
  have e2 := h.2.1
  have e3 := h.2.2.1
  refine ⟨h.1, ?_, ?_, fun _ => h.nd hne⟩
  · show i + 1 = stp tx g.1 + (g.2 + 1)
    omega
  · show g.2 + 1 ≤ 2
    omega
theorem Pi.end (h : Pi tx n tl g) (hG : Gd tl tx n) : g.1 = n := by
  rcases Nat.lt_or_ge g.1 n with c | c
  · have e2 := h.2.1
    have e3 := h.2.2.1
    rcases hG.2.2 g.1 c with k | k
    · have : g.2 = 0 := by
        rcases Nat.eq_zero_or_pos g.2 with z | z
        · exact z
        · exact absurd k.2 (h.2.2.2 z)
      omega
    · have := isP_in k.2.2
      omega
  · exact Nat.le_antisymm h.1 c
theorem Pi.c1 (h : Pi tx n i g) (hG : Gd tl tx n) (hi : i < tl) (hne : ¬ tx i = 46) (h3 : g.2 + 1 ≠ 3) : 16 * cpt tl tx (stp tx g.1) g.2 + pv (tx i) = cpt tl tx (stp tx g.1) (g.2 + 1) := by
  rw [(h.c hG hi (h.nd hne)).2]
  have e3 := h.2.2.1
  rcases (show g.2 = 0 ∨ g.2 = 1 by omega) with z | z <;> rw [z]
  · show 16 * 0 + pv (txc tl tx (stp tx g.1 + 0)) = pv (txc tl tx (stp tx g.1))
    rw [Nat.add_zero]; omega
  · rfl
theorem Pi.c3 (h : Pi tx n i g) (hG : Gd tl tx n) (hi : i < tl) (hne : ¬ tx i = 46) (h3 : g.2 + 1 = 3) : 16 * cpt tl tx (stp tx g.1) g.2 + pv (tx i) = cv3 tl tx (stp tx g.1) := by
  rw [(h.c hG hi (h.nd hne)).2, show g.2 = 2 by omega]
  rfl
end
abbrev rm_c_X1_paintOn_t : Room := { frames := 1, cells := 0, slots := 0, locals := 20 }
theorem hd_X1_paintOn : yX1_paintOn.cls ≠ "java/lang/invoke/MethodHandle" ∧ yX1_paintOn.cls ≠ "java/lang/invoke/VarHandle" ∧ (parseMethodDescriptor yX1_paintOn.desc).map (fun d => d.parameters.length) = some 2 := by decide +kernel
set_option maxRecDepth 100000 in
set_option maxHeartbeats 8000000 in
theorem c_X1_paintOn_t (G : VC) (p : Nat → Nat) (tx : Nat → Nat) (tl : Nat) (b : Nat → Nat) (x : SC) (w_ : Nat) (n_ : Nat) (ht : TI tl tx) (hw : w_ < 6) (hG : Gd tl tx n_) : Ctr yX1_paintOn wsX1_paintOn rm_c_X1_paintOn_t G [.ref (p 0), .ref (b 2), .int (nI (8 * w_))] (bl [pdW G p tx tl, scW G b x]) (fun v9_ u9_ => u9_ = (bl [pdW G p tx tl, scW G b ((scS x, rdF tl tx (8 * w_) (scF x) n_, x.2.2))]) ∧ v9_ = some (.int (nI (rdC tx n_)))) := by
  refine Ctr.int (cc := cX1_paintOn) (maxL := 8) (ret := (some .int)) (lv0 := [some (.ref (p 0)), some (.ref (b 2)), some (.int (nI (8 * w_))), none, none, none, none, none]) (by decide) rfl rfl rfl (Nat.le_of_ble_eq_true rfl) rfl (fun A X E hend => ?_)
  refine V.iload_n E dX1_paintOn_0 rfl rfl ?_
  refine V.istore_n (lv' := [some (.ref (p 0)), some (.ref (b 2)), some (.int (nI (8 * w_))), some (.int (nI (8 * w_))), none, none, none, none]) E dX1_paintOn_1 rfl (Nat.le_of_ble_eq_true rfl) rfl rfl ?_
  refine V.iconst (v := nI (0)) E dX1_paintOn_2 (by decide) ?_
  refine V.istore (lv' := [some (.ref (p 0)), some (.ref (b 2)), some (.int (nI (8 * w_))), some (.int (nI (8 * w_))), some (.int (nI (0))), none, none, none]) E dX1_paintOn_3 (Nat.le_of_ble_eq_true rfl) rfl rfl ?_
  refine V.iconst (v := nI (0)) E dX1_paintOn_5 (by decide) ?_
  refine V.istore (lv' := [some (.ref (p 0)), some (.ref (b 2)), some (.int (nI (8 * w_))), some (.int (nI (8 * w_))), some (.int (nI (0))), some (.int (nI (0))), none, none]) E dX1_paintOn_6 (Nat.le_of_ble_eq_true rfl) rfl rfl ?_
  refine V.iconst (v := nI (0)) E dX1_paintOn_8 (by decide) ?_
  refine V.istore (lv' := [some (.ref (p 0)), some (.ref (b 2)), some (.int (nI (8 * w_))), some (.int (nI (8 * w_))), some (.int (nI (0))), some (.int (nI (0))), some (.int (nI (0))), none]) E dX1_paintOn_9 (Nat.le_of_ble_eq_true rfl) rfl rfl ?_
  refine V.iconst (v := nI (0)) E dX1_paintOn_11 (by decide) ?_
  refine V.istore (lv' := [some (.ref (p 0)), some (.ref (b 2)), some (.int (nI (8 * w_))), some (.int (nI (8 * w_))), some (.int (nI (0))), some (.int (nI (0))), some (.int (nI (0))), some (.int (nI (0)))]) E dX1_paintOn_12 (Nat.le_of_ble_eq_true rfl) rfl rfl ?_
  refine V.drop (lv' := [some (.ref (p 0)), some (.ref (b 2)), none, some (.int (nI (8 * w_))), some (.int (nI (0))), some (.int (nI (0))), some (.int (nI (0))), some (.int (nI (0)))]) [true, true, false, true, true, true, true, true] rfl ?_
  refine V.locN (b := 8 * w_ + ((0, 0)).1) (lv' := [some (.ref (p 0)), some (.ref (b 2)), none, some (.int (nI (8 * w_ + ((0, 0)).1))), some (.int (nI (0))), some (.int (nI (0))), some (.int (nI (0))), some (.int (nI (0)))]) 3 (rfl) rfl rfl ?_
  refine V.locN (b := rdC tx ((0, 0)).1) (lv' := [some (.ref (p 0)), some (.ref (b 2)), none, some (.int (nI (8 * w_ + ((0, 0)).1))), some (.int (nI (rdC tx ((0, 0)).1))), some (.int (nI (0))), some (.int (nI (0))), some (.int (nI (0)))]) 4 (rfl) rfl rfl ?_
  refine V.locN (b := ((0, 0)).2) (lv' := [some (.ref (p 0)), some (.ref (b 2)), none, some (.int (nI (8 * w_ + ((0, 0)).1))), some (.int (nI (rdC tx ((0, 0)).1))), some (.int (nI (((0, 0)).2))), some (.int (nI (0))), some (.int (nI (0)))]) 5 (rfl) rfl rfl ?_
  refine V.locN (b := cpt tl tx (stp tx ((0, 0)).1) ((0, 0)).2) (lv' := [some (.ref (p 0)), some (.ref (b 2)), none, some (.int (nI (8 * w_ + ((0, 0)).1))), some (.int (nI (rdC tx ((0, 0)).1))), some (.int (nI (((0, 0)).2))), some (.int (nI (cpt tl tx (stp tx ((0, 0)).1) ((0, 0)).2))), some (.int (nI (0)))]) 6 (rfl) rfl rfl ?_
  show V G A X rm_c_X1_paintOn_t (bl [pdW G p tx tl, scW G b ((scS x, rdF tl tx (8 * w_) (scF x) ((0, 0)).1, x.2.2))]) 0 0 14 [some (.ref (p 0)), some (.ref (b 2)), none, some (.int (nI (8 * w_ + ((0, 0)).1))), some (.int (nI (rdC tx ((0, 0)).1))), some (.int (nI (((0, 0)).2))), some (.int (nI (cpt tl tx (stp tx ((0, 0)).1) ((0, 0)).2))), some (.int (nI (0)))] []
  refine loopN (P := fun i14 => ∀ gg : Nat × Nat, (Pi tx n_ i14 gg) → V G A X rm_c_X1_paintOn_t (bl [pdW G p tx tl, scW G b ((scS x, rdF tl tx (8 * w_) (scF x) gg.1, x.2.2))]) 0 0 14 [some (.ref (p 0)), some (.ref (b 2)), none, some (.int (nI (8 * w_ + gg.1))), some (.int (nI (rdC tx gg.1))), some (.int (nI (gg.2))), some (.int (nI (cpt tl tx (stp tx gg.1) gg.2))), some (.int (nI (i14)))] []) tl (fun i14 hi_14 ih_14 gg hg_14 => ?_) 0 (Nat.zero_le _) ((0, 0)) (⟨Nat.zero_le _, rfl, by decide, fun z => absurd z (by decide)⟩)
  refine V.iload E dX1_paintOn_14 rfl ?_
  refine V.aload_n E dX1_paintOn_16 rfl rfl ?_
  refine V.getf (C := RX1) (T := TX1) (N := 2) (ref := "GlassSpill$Pad") E 0 1 1 (by decide +kernel) rfl rfl (by decide) (by decide +kernel) rfl rfl dX1_paintOn_17 ?_
  refine V.icmp_geN (tgt := 105) E (by have := ht.1; omega) (by have := ht.1; omega) dX1_paintOn_20 (by decide) (fun q_20 => ?_) (fun q_20 => ?_)
  · obtain rfl : tl = i14 := by omega
    have hj_ := hg_14.end hG
    refine V.eqw (ws' := (bl [pdW G p tx tl, scW G b ((scS x, rdF tl tx (8 * w_) (scF x) n_, x.2.2))])) (by rw [hj_]) ?_
    refine V.iload E dX1_paintOn_105 rfl ?_
    refine V.topN (b := rdC tx n_) (by rw [hj_]) ?_
    exact hend _ _ _ _ dX1_paintOn_107 (nrI _) ⟨rfl, rfl⟩
  · refine V.iload E dX1_paintOn_23 rfl ?_
    refine V.bipush (v := nI (48)) E dX1_paintOn_25 (by decide) ?_
    refine V.icmp_geN (tgt := 105) E (by have := ht.1; omega) (by decide) dX1_paintOn_27 (by decide) (fun q_27 => ?_) (fun q_27 => ?_)
    · exact absurd q_27 (by have := ht.1; omega)
    · refine V.aload_n E dX1_paintOn_30 rfl rfl ?_
      refine V.getf (C := RX1) (T := TX1) (N := 2) (ref := "GlassSpill$Pad") E 0 1 0 (by decide +kernel) rfl rfl (by decide) (by decide +kernel) rfl rfl dX1_paintOn_31 ?_
      refine V.iload E dX1_paintOn_34 rfl ?_
      refine V.ialdN (v := nI (tx i14)) E 1 rfl (by have := ht.1; omega) (by decide) (rfl) dX1_paintOn_36 ?_
      refine V.bipush (v := nI (46)) E dX1_paintOn_37 (by decide) ?_
      refine V.icmp_neN (tgt := 48) E (Nat.lt_trans (ht.2 i14 (by have := ht.1; omega)) (by decide)) (by decide) dX1_paintOn_39 (by decide) (fun q_39 => ?_) (fun q_39 => ?_)
      · have hi_14b : i14 < tl := q_20
        have hj_ := hg_14.j hG hi_14b
        refine V.bipush (v := nI (16)) E dX1_paintOn_48 (by decide) ?_
        refine V.iload E dX1_paintOn_50 rfl ?_
        refine V.imulN E  dX1_paintOn_52 ?_
        refine V.aload_n E dX1_paintOn_53 rfl rfl ?_
        refine V.getf (C := RX1) (T := TX1) (N := 2) (ref := "GlassSpill$Pad") E 0 1 0 (by decide +kernel) rfl rfl (by decide) (by decide +kernel) rfl rfl dX1_paintOn_54 ?_
        refine V.iload E dX1_paintOn_57 rfl ?_
        refine V.ialdN (v := nI (tx i14)) E 1 rfl (by have := ht.1; omega) (by decide) (rfl) dX1_paintOn_59 ?_
        refine V.callS E (c_X1_partOf G (tx i14) (ht.2 i14 (by have := ht.1; omega))) (bl [pdW G p tx tl, scW G b ((scS x, rdF tl tx (8 * w_) (scF x) gg.1, x.2.2))]) [.int (nI (16 * (cpt tl tx (stp tx gg.1) gg.2)))] gX1_paintOn_X1_partOf rfl hd_X1_partOf ⟨⟨Nat.le_of_ble_eq_true rfl, Nat.le_of_ble_eq_true rfl⟩, Nat.le_of_ble_eq_true rfl, Nat.le_of_ble_eq_true rfl⟩ rfl (Nat.le_of_ble_eq_true rfl) rfl dX1_paintOn_60 (List.Perm.refl _) (kc' := 0) (ks' := 0) rfl rfl (rwI (ws' := (bl [pdW G p tx tl, scW G b ((scS x, rdF tl tx (8 * w_) (scF x) gg.1, x.2.2))])) (List.Perm.refl _) ?_)
        refine V.top (y := nI (pv (tx i14))) (prI_t (hg_14.c hG hi_14b (hg_14.nd q_39)).1) ?_
        refine V.iaddN E  dX1_paintOn_63 ?_
        refine V.istore (lv' := [some (.ref (p 0)), some (.ref (b 2)), none, some (.int (nI (8 * w_ + gg.1))), some (.int (nI (rdC tx gg.1))), some (.int (nI (gg.2))), some (.int (nI ((16 * (cpt tl tx (stp tx gg.1) gg.2)) + (pv (tx i14))))), some (.int (nI (i14)))]) E dX1_paintOn_64 (Nat.le_of_ble_eq_true rfl) rfl rfl ?_
        refine V.iincN (lv' := [some (.ref (p 0)), some (.ref (b 2)), none, some (.int (nI (8 * w_ + gg.1))), some (.int (nI (rdC tx gg.1))), some (.int (nI (gg.2 + 1))), some (.int (nI ((16 * (cpt tl tx (stp tx gg.1) gg.2)) + (pv (tx i14))))), some (.int (nI (i14)))]) E dX1_paintOn_66 rfl (Nat.le_of_ble_eq_true rfl) rfl rfl ?_
        refine V.iload E dX1_paintOn_69 rfl ?_
        refine V.iconst (v := nI (3)) E dX1_paintOn_71 (by decide) ?_
        refine V.icmp_neN (tgt := 99) E (by have := hg_14.2.2.1; omega) (by decide) dX1_paintOn_72 (by decide) (fun q_72 => ?_) (fun q_72 => ?_)
        · refine V.iincN (lv' := [some (.ref (p 0)), some (.ref (b 2)), none, some (.int (nI (8 * w_ + gg.1))), some (.int (nI (rdC tx gg.1))), some (.int (nI (gg.2 + 1))), some (.int (nI ((16 * (cpt tl tx (stp tx gg.1) gg.2)) + (pv (tx i14))))), some (.int (nI (i14 + 1)))]) E dX1_paintOn_99 rfl (Nat.le_of_ble_eq_true rfl) rfl rfl ?_
          refine V.goto (tgt := 14) E dX1_paintOn_102 (by decide) ?_
          refine V.locN (b := 8 * w_ + ((gg.1, gg.2 + 1)).1) (lv' := [some (.ref (p 0)), some (.ref (b 2)), none, some (.int (nI (8 * w_ + ((gg.1, gg.2 + 1)).1))), some (.int (nI (rdC tx gg.1))), some (.int (nI (gg.2 + 1))), some (.int (nI ((16 * (cpt tl tx (stp tx gg.1) gg.2)) + (pv (tx i14))))), some (.int (nI (i14 + 1)))]) 3 (rfl) rfl rfl ?_
          refine V.locN (b := rdC tx ((gg.1, gg.2 + 1)).1) (lv' := [some (.ref (p 0)), some (.ref (b 2)), none, some (.int (nI (8 * w_ + ((gg.1, gg.2 + 1)).1))), some (.int (nI (rdC tx ((gg.1, gg.2 + 1)).1))), some (.int (nI (gg.2 + 1))), some (.int (nI ((16 * (cpt tl tx (stp tx gg.1) gg.2)) + (pv (tx i14))))), some (.int (nI (i14 + 1)))]) 4 (rfl) rfl rfl ?_
          refine V.locN (b := ((gg.1, gg.2 + 1)).2) (lv' := [some (.ref (p 0)), some (.ref (b 2)), none, some (.int (nI (8 * w_ + ((gg.1, gg.2 + 1)).1))), some (.int (nI (rdC tx ((gg.1, gg.2 + 1)).1))), some (.int (nI (((gg.1, gg.2 + 1)).2))), some (.int (nI ((16 * (cpt tl tx (stp tx gg.1) gg.2)) + (pv (tx i14))))), some (.int (nI (i14 + 1)))]) 5 (rfl) rfl rfl ?_
          refine V.locN (b := cpt tl tx (stp tx ((gg.1, gg.2 + 1)).1) ((gg.1, gg.2 + 1)).2) (lv' := [some (.ref (p 0)), some (.ref (b 2)), none, some (.int (nI (8 * w_ + ((gg.1, gg.2 + 1)).1))), some (.int (nI (rdC tx ((gg.1, gg.2 + 1)).1))), some (.int (nI (((gg.1, gg.2 + 1)).2))), some (.int (nI (cpt tl tx (stp tx ((gg.1, gg.2 + 1)).1) ((gg.1, gg.2 + 1)).2))), some (.int (nI (i14 + 1)))]) 6 (hg_14.c1 hG hi_14b q_39 q_72) rfl rfl ?_
          show V G A X rm_c_X1_paintOn_t (bl [pdW G p tx tl, scW G b ((scS x, rdF tl tx (8 * w_) (scF x) ((gg.1, gg.2 + 1)).1, x.2.2))]) 0 0 14 [some (.ref (p 0)), some (.ref (b 2)), none, some (.int (nI (8 * w_ + ((gg.1, gg.2 + 1)).1))), some (.int (nI (rdC tx ((gg.1, gg.2 + 1)).1))), some (.int (nI (((gg.1, gg.2 + 1)).2))), some (.int (nI (cpt tl tx (stp tx ((gg.1, gg.2 + 1)).1) ((gg.1, gg.2 + 1)).2))), some (.int (nI (i14 + 1)))] []
          exact ih_14 (by omega) ((gg.1, gg.2 + 1)) (hg_14.n1 q_39 q_72)
        · refine V.iload_n E dX1_paintOn_75 rfl rfl ?_
          refine V.callSN (host := "GlassSpill")  E (c_X4_isPixel G (nI (8 * w_ + gg.1)) ) (bl [pdW G p tx tl, scW G b ((scS x, rdF tl tx (8 * w_) (scF x) gg.1, x.2.2))]) [] gX1_paintOn_X4_isPixel_n25 rfl (by decide +kernel) (by decide +kernel) (by decide +kernel) hd_X4_isPixel ⟨⟨Nat.le_of_ble_eq_true rfl, Nat.le_of_ble_eq_true rfl⟩, Nat.le_of_ble_eq_true rfl, Nat.le_of_ble_eq_true rfl⟩ rfl (Nat.le_of_ble_eq_true rfl) rfl dX1_paintOn_76 (List.Perm.refl _) (kc' := 0) (ks' := 0) rfl rfl (rwI (ws' := (bl [pdW G p tx tl, scW G b ((scS x, rdF tl tx (8 * w_) (scF x) gg.1, x.2.2))])) (List.Perm.refl _) ?_)
          refine V.if_eqB (tgt := 99) E dX1_paintOn_79 (by decide) (fun q_79 => ?_) (fun q_79 => ?_)
          · exact absurd ((okI_n (n := 48) (j := 8 * w_ + gg.1) (by have := hG.1; omega) (by have := hG.1; omega)).symm.trans q_79) (by decide)
          · refine V.aload_n E dX1_paintOn_82 rfl rfl ?_
            refine V.iload_n E dX1_paintOn_83 rfl rfl ?_
            refine V.iload E dX1_paintOn_84 rfl ?_
            refine V.iastN (f' := nA (rdF tl tx (8 * w_) (scF x) (gg.1 + 1))) (ws' := (bl [pdW G p tx tl, scW G b ((scS x, rdF tl tx (8 * w_) (scF x) (gg.1 + 1), x.2.2))])) E 4 rfl (by have := hG.1; omega) (by decide) dX1_paintOn_86 (fun j _ => by rw [hg_14.c3 hG hi_14b q_39 q_72, upN_a, rdF_n (hg_14.nd q_39)]) rfl ?_
            refine V.iincN (lv' := [some (.ref (p 0)), some (.ref (b 2)), none, some (.int (nI (8 * w_ + gg.1 + 1))), some (.int (nI (rdC tx gg.1))), some (.int (nI (gg.2 + 1))), some (.int (nI ((16 * (cpt tl tx (stp tx gg.1) gg.2)) + (pv (tx i14))))), some (.int (nI (i14)))]) E dX1_paintOn_87 rfl (Nat.le_of_ble_eq_true rfl) rfl rfl ?_
            refine V.iincN (lv' := [some (.ref (p 0)), some (.ref (b 2)), none, some (.int (nI (8 * w_ + gg.1 + 1))), some (.int (nI (rdC tx gg.1 + 1))), some (.int (nI (gg.2 + 1))), some (.int (nI ((16 * (cpt tl tx (stp tx gg.1) gg.2)) + (pv (tx i14))))), some (.int (nI (i14)))]) E dX1_paintOn_90 rfl (Nat.le_of_ble_eq_true rfl) rfl rfl ?_
            refine V.iconst (v := nI (0)) E dX1_paintOn_93 (by decide) ?_
            refine V.istore (lv' := [some (.ref (p 0)), some (.ref (b 2)), none, some (.int (nI (8 * w_ + gg.1 + 1))), some (.int (nI (rdC tx gg.1 + 1))), some (.int (nI (0))), some (.int (nI ((16 * (cpt tl tx (stp tx gg.1) gg.2)) + (pv (tx i14))))), some (.int (nI (i14)))]) E dX1_paintOn_94 (Nat.le_of_ble_eq_true rfl) rfl rfl ?_
            refine V.iconst (v := nI (0)) E dX1_paintOn_96 (by decide) ?_
            refine V.istore (lv' := [some (.ref (p 0)), some (.ref (b 2)), none, some (.int (nI (8 * w_ + gg.1 + 1))), some (.int (nI (rdC tx gg.1 + 1))), some (.int (nI (0))), some (.int (nI (0))), some (.int (nI (i14)))]) E dX1_paintOn_97 (Nat.le_of_ble_eq_true rfl) rfl rfl ?_
            refine V.iincN (lv' := [some (.ref (p 0)), some (.ref (b 2)), none, some (.int (nI (8 * w_ + gg.1 + 1))), some (.int (nI (rdC tx gg.1 + 1))), some (.int (nI (0))), some (.int (nI (0))), some (.int (nI (i14 + 1)))]) E dX1_paintOn_99 rfl (Nat.le_of_ble_eq_true rfl) rfl rfl ?_
            refine V.goto (tgt := 14) E dX1_paintOn_102 (by decide) ?_
            refine V.locN (b := 8 * w_ + ((gg.1 + 1, 0)).1) (lv' := [some (.ref (p 0)), some (.ref (b 2)), none, some (.int (nI (8 * w_ + ((gg.1 + 1, 0)).1))), some (.int (nI (rdC tx gg.1 + 1))), some (.int (nI (0))), some (.int (nI (0))), some (.int (nI (i14 + 1)))]) 3 (rfl) rfl rfl ?_
            refine V.locN (b := rdC tx ((gg.1 + 1, 0)).1) (lv' := [some (.ref (p 0)), some (.ref (b 2)), none, some (.int (nI (8 * w_ + ((gg.1 + 1, 0)).1))), some (.int (nI (rdC tx ((gg.1 + 1, 0)).1))), some (.int (nI (0))), some (.int (nI (0))), some (.int (nI (i14 + 1)))]) 4 (rdC_n (hg_14.nd q_39)) rfl rfl ?_
            refine V.locN (b := ((gg.1 + 1, 0)).2) (lv' := [some (.ref (p 0)), some (.ref (b 2)), none, some (.int (nI (8 * w_ + ((gg.1 + 1, 0)).1))), some (.int (nI (rdC tx ((gg.1 + 1, 0)).1))), some (.int (nI (((gg.1 + 1, 0)).2))), some (.int (nI (0))), some (.int (nI (i14 + 1)))]) 5 (rfl) rfl rfl ?_
            refine V.locN (b := cpt tl tx (stp tx ((gg.1 + 1, 0)).1) ((gg.1 + 1, 0)).2) (lv' := [some (.ref (p 0)), some (.ref (b 2)), none, some (.int (nI (8 * w_ + ((gg.1 + 1, 0)).1))), some (.int (nI (rdC tx ((gg.1 + 1, 0)).1))), some (.int (nI (((gg.1 + 1, 0)).2))), some (.int (nI (cpt tl tx (stp tx ((gg.1 + 1, 0)).1) ((gg.1 + 1, 0)).2))), some (.int (nI (i14 + 1)))]) 6 (rfl) rfl rfl ?_
            show V G A X rm_c_X1_paintOn_t (bl [pdW G p tx tl, scW G b ((scS x, rdF tl tx (8 * w_) (scF x) ((gg.1 + 1, 0)).1, x.2.2))]) 0 0 14 [some (.ref (p 0)), some (.ref (b 2)), none, some (.int (nI (8 * w_ + ((gg.1 + 1, 0)).1))), some (.int (nI (rdC tx ((gg.1 + 1, 0)).1))), some (.int (nI (((gg.1 + 1, 0)).2))), some (.int (nI (cpt tl tx (stp tx ((gg.1 + 1, 0)).1) ((gg.1 + 1, 0)).2))), some (.int (nI (i14 + 1)))] []
            exact ih_14 (by omega) ((gg.1 + 1, 0)) (hg_14.n3 hG hi_14b q_39 q_72)
      · have hi_14b : i14 < tl := q_20
        have hj_ := hg_14.j hG hi_14b
        refine V.iincN (lv' := [some (.ref (p 0)), some (.ref (b 2)), none, some (.int (nI (8 * w_ + gg.1 + 1))), some (.int (nI (rdC tx gg.1))), some (.int (nI (gg.2))), some (.int (nI (cpt tl tx (stp tx gg.1) gg.2))), some (.int (nI (i14)))]) E dX1_paintOn_42 rfl (Nat.le_of_ble_eq_true rfl) rfl rfl ?_
        refine V.goto (tgt := 99) E dX1_paintOn_45 (by decide) ?_
        refine V.iincN (lv' := [some (.ref (p 0)), some (.ref (b 2)), none, some (.int (nI (8 * w_ + gg.1 + 1))), some (.int (nI (rdC tx gg.1))), some (.int (nI (gg.2))), some (.int (nI (cpt tl tx (stp tx gg.1) gg.2))), some (.int (nI (i14 + 1)))]) E dX1_paintOn_99 rfl (Nat.le_of_ble_eq_true rfl) rfl rfl ?_
        refine V.goto (tgt := 14) E dX1_paintOn_102 (by decide) ?_
        refine V.locN (b := 8 * w_ + ((gg.1 + 1, 0)).1) (lv' := [some (.ref (p 0)), some (.ref (b 2)), none, some (.int (nI (8 * w_ + ((gg.1 + 1, 0)).1))), some (.int (nI (rdC tx gg.1))), some (.int (nI (gg.2))), some (.int (nI (cpt tl tx (stp tx gg.1) gg.2))), some (.int (nI (i14 + 1)))]) 3 (rfl) rfl rfl ?_
        refine V.locN (b := rdC tx ((gg.1 + 1, 0)).1) (lv' := [some (.ref (p 0)), some (.ref (b 2)), none, some (.int (nI (8 * w_ + ((gg.1 + 1, 0)).1))), some (.int (nI (rdC tx ((gg.1 + 1, 0)).1))), some (.int (nI (gg.2))), some (.int (nI (cpt tl tx (stp tx gg.1) gg.2))), some (.int (nI (i14 + 1)))]) 4 (rdC_d (hg_14.dot hG hi_14b q_39).2) rfl rfl ?_
        refine V.locN (b := ((gg.1 + 1, 0)).2) (lv' := [some (.ref (p 0)), some (.ref (b 2)), none, some (.int (nI (8 * w_ + ((gg.1 + 1, 0)).1))), some (.int (nI (rdC tx ((gg.1 + 1, 0)).1))), some (.int (nI (((gg.1 + 1, 0)).2))), some (.int (nI (cpt tl tx (stp tx gg.1) gg.2))), some (.int (nI (i14 + 1)))]) 5 ((hg_14.dot hG hi_14b q_39).1) rfl rfl ?_
        refine V.locN (b := cpt tl tx (stp tx ((gg.1 + 1, 0)).1) ((gg.1 + 1, 0)).2) (lv' := [some (.ref (p 0)), some (.ref (b 2)), none, some (.int (nI (8 * w_ + ((gg.1 + 1, 0)).1))), some (.int (nI (rdC tx ((gg.1 + 1, 0)).1))), some (.int (nI (((gg.1 + 1, 0)).2))), some (.int (nI (cpt tl tx (stp tx ((gg.1 + 1, 0)).1) ((gg.1 + 1, 0)).2))), some (.int (nI (i14 + 1)))]) 6 (by rw [(hg_14.dot hG hi_14b q_39).1]; rfl) rfl rfl ?_
        refine V.eqw (ws' := (bl [pdW G p tx tl, scW G b ((scS x, rdF tl tx (8 * w_) (scF x) ((gg.1 + 1, 0)).1, x.2.2))])) (by rw [rdF_d (hg_14.dot hG hi_14b q_39).2]) ?_
        exact ih_14 (by omega) ((gg.1 + 1, 0)) (hg_14.nd0 hG hi_14b q_39)
abbrev rm_c_X1_paintOn_f : Room := { frames := 1, cells := 0, slots := 0, locals := 20 }
set_option maxRecDepth 100000 in
set_option maxHeartbeats 8000000 in
theorem c_X1_paintOn_f (G : VC) (p : Nat → Nat) (tx : Nat → Nat) (tl : Nat) (b : Nat → Nat) (x : SC) (w_ : Nat) (n_ : Nat) (ht : TI tl tx) (hw : w_ < 6) (hG : Gd tl tx n_) : Ctr yX1_paintOn wsX1_paintOn rm_c_X1_paintOn_f G [.ref (p 0), .ref (b 3), .int (nI (8 * w_))] (bl [pdW G p tx tl, scW G b x]) (fun v9_ u9_ => u9_ = (bl [pdW G p tx tl, scW G b ((scS x, scF x, rdF tl tx (8 * w_) (scB x) n_, x.2.2.2))]) ∧ v9_ = some (.int (nI (rdC tx n_)))) := by
  refine Ctr.int (cc := cX1_paintOn) (maxL := 8) (ret := (some .int)) (lv0 := [some (.ref (p 0)), some (.ref (b 3)), some (.int (nI (8 * w_))), none, none, none, none, none]) (by decide) rfl rfl rfl (Nat.le_of_ble_eq_true rfl) rfl (fun A X E hend => ?_)
  refine V.iload_n E dX1_paintOn_0 rfl rfl ?_
  refine V.istore_n (lv' := [some (.ref (p 0)), some (.ref (b 3)), some (.int (nI (8 * w_))), some (.int (nI (8 * w_))), none, none, none, none]) E dX1_paintOn_1 rfl (Nat.le_of_ble_eq_true rfl) rfl rfl ?_
  refine V.iconst (v := nI (0)) E dX1_paintOn_2 (by decide) ?_
  refine V.istore (lv' := [some (.ref (p 0)), some (.ref (b 3)), some (.int (nI (8 * w_))), some (.int (nI (8 * w_))), some (.int (nI (0))), none, none, none]) E dX1_paintOn_3 (Nat.le_of_ble_eq_true rfl) rfl rfl ?_
  refine V.iconst (v := nI (0)) E dX1_paintOn_5 (by decide) ?_
  refine V.istore (lv' := [some (.ref (p 0)), some (.ref (b 3)), some (.int (nI (8 * w_))), some (.int (nI (8 * w_))), some (.int (nI (0))), some (.int (nI (0))), none, none]) E dX1_paintOn_6 (Nat.le_of_ble_eq_true rfl) rfl rfl ?_
  refine V.iconst (v := nI (0)) E dX1_paintOn_8 (by decide) ?_
  refine V.istore (lv' := [some (.ref (p 0)), some (.ref (b 3)), some (.int (nI (8 * w_))), some (.int (nI (8 * w_))), some (.int (nI (0))), some (.int (nI (0))), some (.int (nI (0))), none]) E dX1_paintOn_9 (Nat.le_of_ble_eq_true rfl) rfl rfl ?_
  refine V.iconst (v := nI (0)) E dX1_paintOn_11 (by decide) ?_
  refine V.istore (lv' := [some (.ref (p 0)), some (.ref (b 3)), some (.int (nI (8 * w_))), some (.int (nI (8 * w_))), some (.int (nI (0))), some (.int (nI (0))), some (.int (nI (0))), some (.int (nI (0)))]) E dX1_paintOn_12 (Nat.le_of_ble_eq_true rfl) rfl rfl ?_
  refine V.drop (lv' := [some (.ref (p 0)), some (.ref (b 3)), none, some (.int (nI (8 * w_))), some (.int (nI (0))), some (.int (nI (0))), some (.int (nI (0))), some (.int (nI (0)))]) [true, true, false, true, true, true, true, true] rfl ?_
  refine V.locN (b := 8 * w_ + ((0, 0)).1) (lv' := [some (.ref (p 0)), some (.ref (b 3)), none, some (.int (nI (8 * w_ + ((0, 0)).1))), some (.int (nI (0))), some (.int (nI (0))), some (.int (nI (0))), some (.int (nI (0)))]) 3 (rfl) rfl rfl ?_
  refine V.locN (b := rdC tx ((0, 0)).1) (lv' := [some (.ref (p 0)), some (.ref (b 3)), none, some (.int (nI (8 * w_ + ((0, 0)).1))), some (.int (nI (rdC tx ((0, 0)).1))), some (.int (nI (0))), some (.int (nI (0))), some (.int (nI (0)))]) 4 (rfl) rfl rfl ?_
  refine V.locN (b := ((0, 0)).2) (lv' := [some (.ref (p 0)), some (.ref (b 3)), none, some (.int (nI (8 * w_ + ((0, 0)).1))), some (.int (nI (rdC tx ((0, 0)).1))), some (.int (nI (((0, 0)).2))), some (.int (nI (0))), some (.int (nI (0)))]) 5 (rfl) rfl rfl ?_
  refine V.locN (b := cpt tl tx (stp tx ((0, 0)).1) ((0, 0)).2) (lv' := [some (.ref (p 0)), some (.ref (b 3)), none, some (.int (nI (8 * w_ + ((0, 0)).1))), some (.int (nI (rdC tx ((0, 0)).1))), some (.int (nI (((0, 0)).2))), some (.int (nI (cpt tl tx (stp tx ((0, 0)).1) ((0, 0)).2))), some (.int (nI (0)))]) 6 (rfl) rfl rfl ?_
  show V G A X rm_c_X1_paintOn_f (bl [pdW G p tx tl, scW G b ((scS x, scF x, rdF tl tx (8 * w_) (scB x) ((0, 0)).1, x.2.2.2))]) 0 0 14 [some (.ref (p 0)), some (.ref (b 3)), none, some (.int (nI (8 * w_ + ((0, 0)).1))), some (.int (nI (rdC tx ((0, 0)).1))), some (.int (nI (((0, 0)).2))), some (.int (nI (cpt tl tx (stp tx ((0, 0)).1) ((0, 0)).2))), some (.int (nI (0)))] []
  refine loopN (P := fun i14 => ∀ gg : Nat × Nat, (Pi tx n_ i14 gg) → V G A X rm_c_X1_paintOn_f (bl [pdW G p tx tl, scW G b ((scS x, scF x, rdF tl tx (8 * w_) (scB x) gg.1, x.2.2.2))]) 0 0 14 [some (.ref (p 0)), some (.ref (b 3)), none, some (.int (nI (8 * w_ + gg.1))), some (.int (nI (rdC tx gg.1))), some (.int (nI (gg.2))), some (.int (nI (cpt tl tx (stp tx gg.1) gg.2))), some (.int (nI (i14)))] []) tl (fun i14 hi_14 ih_14 gg hg_14 => ?_) 0 (Nat.zero_le _) ((0, 0)) (⟨Nat.zero_le _, rfl, by decide, fun z => absurd z (by decide)⟩)
  refine V.iload E dX1_paintOn_14 rfl ?_
  refine V.aload_n E dX1_paintOn_16 rfl rfl ?_
  refine V.getf (C := RX1) (T := TX1) (N := 2) (ref := "GlassSpill$Pad") E 0 1 1 (by decide +kernel) rfl rfl (by decide) (by decide +kernel) rfl rfl dX1_paintOn_17 ?_
  refine V.icmp_geN (tgt := 105) E (by have := ht.1; omega) (by have := ht.1; omega) dX1_paintOn_20 (by decide) (fun q_20 => ?_) (fun q_20 => ?_)
  · obtain rfl : tl = i14 := by omega
    have hj_ := hg_14.end hG
    refine V.eqw (ws' := (bl [pdW G p tx tl, scW G b ((scS x, scF x, rdF tl tx (8 * w_) (scB x) n_, x.2.2.2))])) (by rw [hj_]) ?_
    refine V.iload E dX1_paintOn_105 rfl ?_
    refine V.topN (b := rdC tx n_) (by rw [hj_]) ?_
    exact hend _ _ _ _ dX1_paintOn_107 (nrI _) ⟨rfl, rfl⟩
  · refine V.iload E dX1_paintOn_23 rfl ?_
    refine V.bipush (v := nI (48)) E dX1_paintOn_25 (by decide) ?_
    refine V.icmp_geN (tgt := 105) E (by have := ht.1; omega) (by decide) dX1_paintOn_27 (by decide) (fun q_27 => ?_) (fun q_27 => ?_)
    · exact absurd q_27 (by have := ht.1; omega)
    · refine V.aload_n E dX1_paintOn_30 rfl rfl ?_
      refine V.getf (C := RX1) (T := TX1) (N := 2) (ref := "GlassSpill$Pad") E 0 1 0 (by decide +kernel) rfl rfl (by decide) (by decide +kernel) rfl rfl dX1_paintOn_31 ?_
      refine V.iload E dX1_paintOn_34 rfl ?_
      refine V.ialdN (v := nI (tx i14)) E 1 rfl (by have := ht.1; omega) (by decide) (rfl) dX1_paintOn_36 ?_
      refine V.bipush (v := nI (46)) E dX1_paintOn_37 (by decide) ?_
      refine V.icmp_neN (tgt := 48) E (Nat.lt_trans (ht.2 i14 (by have := ht.1; omega)) (by decide)) (by decide) dX1_paintOn_39 (by decide) (fun q_39 => ?_) (fun q_39 => ?_)
      · have hi_14b : i14 < tl := q_20
        have hj_ := hg_14.j hG hi_14b
        refine V.bipush (v := nI (16)) E dX1_paintOn_48 (by decide) ?_
        refine V.iload E dX1_paintOn_50 rfl ?_
        refine V.imulN E  dX1_paintOn_52 ?_
        refine V.aload_n E dX1_paintOn_53 rfl rfl ?_
        refine V.getf (C := RX1) (T := TX1) (N := 2) (ref := "GlassSpill$Pad") E 0 1 0 (by decide +kernel) rfl rfl (by decide) (by decide +kernel) rfl rfl dX1_paintOn_54 ?_
        refine V.iload E dX1_paintOn_57 rfl ?_
        refine V.ialdN (v := nI (tx i14)) E 1 rfl (by have := ht.1; omega) (by decide) (rfl) dX1_paintOn_59 ?_
        refine V.callS E (c_X1_partOf G (tx i14) (ht.2 i14 (by have := ht.1; omega))) (bl [pdW G p tx tl, scW G b ((scS x, scF x, rdF tl tx (8 * w_) (scB x) gg.1, x.2.2.2))]) [.int (nI (16 * (cpt tl tx (stp tx gg.1) gg.2)))] gX1_paintOn_X1_partOf rfl hd_X1_partOf ⟨⟨Nat.le_of_ble_eq_true rfl, Nat.le_of_ble_eq_true rfl⟩, Nat.le_of_ble_eq_true rfl, Nat.le_of_ble_eq_true rfl⟩ rfl (Nat.le_of_ble_eq_true rfl) rfl dX1_paintOn_60 (List.Perm.refl _) (kc' := 0) (ks' := 0) rfl rfl (rwI (ws' := (bl [pdW G p tx tl, scW G b ((scS x, scF x, rdF tl tx (8 * w_) (scB x) gg.1, x.2.2.2))])) (List.Perm.refl _) ?_)
        refine V.top (y := nI (pv (tx i14))) (prI_t (hg_14.c hG hi_14b (hg_14.nd q_39)).1) ?_
        refine V.iaddN E  dX1_paintOn_63 ?_
        refine V.istore (lv' := [some (.ref (p 0)), some (.ref (b 3)), none, some (.int (nI (8 * w_ + gg.1))), some (.int (nI (rdC tx gg.1))), some (.int (nI (gg.2))), some (.int (nI ((16 * (cpt tl tx (stp tx gg.1) gg.2)) + (pv (tx i14))))), some (.int (nI (i14)))]) E dX1_paintOn_64 (Nat.le_of_ble_eq_true rfl) rfl rfl ?_
        refine V.iincN (lv' := [some (.ref (p 0)), some (.ref (b 3)), none, some (.int (nI (8 * w_ + gg.1))), some (.int (nI (rdC tx gg.1))), some (.int (nI (gg.2 + 1))), some (.int (nI ((16 * (cpt tl tx (stp tx gg.1) gg.2)) + (pv (tx i14))))), some (.int (nI (i14)))]) E dX1_paintOn_66 rfl (Nat.le_of_ble_eq_true rfl) rfl rfl ?_
        refine V.iload E dX1_paintOn_69 rfl ?_
        refine V.iconst (v := nI (3)) E dX1_paintOn_71 (by decide) ?_
        refine V.icmp_neN (tgt := 99) E (by have := hg_14.2.2.1; omega) (by decide) dX1_paintOn_72 (by decide) (fun q_72 => ?_) (fun q_72 => ?_)
        · refine V.iincN (lv' := [some (.ref (p 0)), some (.ref (b 3)), none, some (.int (nI (8 * w_ + gg.1))), some (.int (nI (rdC tx gg.1))), some (.int (nI (gg.2 + 1))), some (.int (nI ((16 * (cpt tl tx (stp tx gg.1) gg.2)) + (pv (tx i14))))), some (.int (nI (i14 + 1)))]) E dX1_paintOn_99 rfl (Nat.le_of_ble_eq_true rfl) rfl rfl ?_
          refine V.goto (tgt := 14) E dX1_paintOn_102 (by decide) ?_
          refine V.locN (b := 8 * w_ + ((gg.1, gg.2 + 1)).1) (lv' := [some (.ref (p 0)), some (.ref (b 3)), none, some (.int (nI (8 * w_ + ((gg.1, gg.2 + 1)).1))), some (.int (nI (rdC tx gg.1))), some (.int (nI (gg.2 + 1))), some (.int (nI ((16 * (cpt tl tx (stp tx gg.1) gg.2)) + (pv (tx i14))))), some (.int (nI (i14 + 1)))]) 3 (rfl) rfl rfl ?_
          refine V.locN (b := rdC tx ((gg.1, gg.2 + 1)).1) (lv' := [some (.ref (p 0)), some (.ref (b 3)), none, some (.int (nI (8 * w_ + ((gg.1, gg.2 + 1)).1))), some (.int (nI (rdC tx ((gg.1, gg.2 + 1)).1))), some (.int (nI (gg.2 + 1))), some (.int (nI ((16 * (cpt tl tx (stp tx gg.1) gg.2)) + (pv (tx i14))))), some (.int (nI (i14 + 1)))]) 4 (rfl) rfl rfl ?_
          refine V.locN (b := ((gg.1, gg.2 + 1)).2) (lv' := [some (.ref (p 0)), some (.ref (b 3)), none, some (.int (nI (8 * w_ + ((gg.1, gg.2 + 1)).1))), some (.int (nI (rdC tx ((gg.1, gg.2 + 1)).1))), some (.int (nI (((gg.1, gg.2 + 1)).2))), some (.int (nI ((16 * (cpt tl tx (stp tx gg.1) gg.2)) + (pv (tx i14))))), some (.int (nI (i14 + 1)))]) 5 (rfl) rfl rfl ?_
          refine V.locN (b := cpt tl tx (stp tx ((gg.1, gg.2 + 1)).1) ((gg.1, gg.2 + 1)).2) (lv' := [some (.ref (p 0)), some (.ref (b 3)), none, some (.int (nI (8 * w_ + ((gg.1, gg.2 + 1)).1))), some (.int (nI (rdC tx ((gg.1, gg.2 + 1)).1))), some (.int (nI (((gg.1, gg.2 + 1)).2))), some (.int (nI (cpt tl tx (stp tx ((gg.1, gg.2 + 1)).1) ((gg.1, gg.2 + 1)).2))), some (.int (nI (i14 + 1)))]) 6 (hg_14.c1 hG hi_14b q_39 q_72) rfl rfl ?_
          show V G A X rm_c_X1_paintOn_f (bl [pdW G p tx tl, scW G b ((scS x, scF x, rdF tl tx (8 * w_) (scB x) ((gg.1, gg.2 + 1)).1, x.2.2.2))]) 0 0 14 [some (.ref (p 0)), some (.ref (b 3)), none, some (.int (nI (8 * w_ + ((gg.1, gg.2 + 1)).1))), some (.int (nI (rdC tx ((gg.1, gg.2 + 1)).1))), some (.int (nI (((gg.1, gg.2 + 1)).2))), some (.int (nI (cpt tl tx (stp tx ((gg.1, gg.2 + 1)).1) ((gg.1, gg.2 + 1)).2))), some (.int (nI (i14 + 1)))] []
          exact ih_14 (by omega) ((gg.1, gg.2 + 1)) (hg_14.n1 q_39 q_72)
        · refine V.iload_n E dX1_paintOn_75 rfl rfl ?_
          refine V.callSN (host := "GlassSpill")  E (c_X4_isPixel G (nI (8 * w_ + gg.1)) ) (bl [pdW G p tx tl, scW G b ((scS x, scF x, rdF tl tx (8 * w_) (scB x) gg.1, x.2.2.2))]) [] gX1_paintOn_X4_isPixel_n25 rfl (by decide +kernel) (by decide +kernel) (by decide +kernel) hd_X4_isPixel ⟨⟨Nat.le_of_ble_eq_true rfl, Nat.le_of_ble_eq_true rfl⟩, Nat.le_of_ble_eq_true rfl, Nat.le_of_ble_eq_true rfl⟩ rfl (Nat.le_of_ble_eq_true rfl) rfl dX1_paintOn_76 (List.Perm.refl _) (kc' := 0) (ks' := 0) rfl rfl (rwI (ws' := (bl [pdW G p tx tl, scW G b ((scS x, scF x, rdF tl tx (8 * w_) (scB x) gg.1, x.2.2.2))])) (List.Perm.refl _) ?_)
          refine V.if_eqB (tgt := 99) E dX1_paintOn_79 (by decide) (fun q_79 => ?_) (fun q_79 => ?_)
          · exact absurd ((okI_n (n := 48) (j := 8 * w_ + gg.1) (by have := hG.1; omega) (by have := hG.1; omega)).symm.trans q_79) (by decide)
          · refine V.aload_n E dX1_paintOn_82 rfl rfl ?_
            refine V.iload_n E dX1_paintOn_83 rfl rfl ?_
            refine V.iload E dX1_paintOn_84 rfl ?_
            refine V.iastN (f' := nA (rdF tl tx (8 * w_) (scB x) (gg.1 + 1))) (ws' := (bl [pdW G p tx tl, scW G b ((scS x, scF x, rdF tl tx (8 * w_) (scB x) (gg.1 + 1), x.2.2.2))])) E 5 rfl (by have := hG.1; omega) (by decide) dX1_paintOn_86 (fun j _ => by rw [hg_14.c3 hG hi_14b q_39 q_72, upN_a, rdF_n (hg_14.nd q_39)]) rfl ?_
            refine V.iincN (lv' := [some (.ref (p 0)), some (.ref (b 3)), none, some (.int (nI (8 * w_ + gg.1 + 1))), some (.int (nI (rdC tx gg.1))), some (.int (nI (gg.2 + 1))), some (.int (nI ((16 * (cpt tl tx (stp tx gg.1) gg.2)) + (pv (tx i14))))), some (.int (nI (i14)))]) E dX1_paintOn_87 rfl (Nat.le_of_ble_eq_true rfl) rfl rfl ?_
            refine V.iincN (lv' := [some (.ref (p 0)), some (.ref (b 3)), none, some (.int (nI (8 * w_ + gg.1 + 1))), some (.int (nI (rdC tx gg.1 + 1))), some (.int (nI (gg.2 + 1))), some (.int (nI ((16 * (cpt tl tx (stp tx gg.1) gg.2)) + (pv (tx i14))))), some (.int (nI (i14)))]) E dX1_paintOn_90 rfl (Nat.le_of_ble_eq_true rfl) rfl rfl ?_
            refine V.iconst (v := nI (0)) E dX1_paintOn_93 (by decide) ?_
            refine V.istore (lv' := [some (.ref (p 0)), some (.ref (b 3)), none, some (.int (nI (8 * w_ + gg.1 + 1))), some (.int (nI (rdC tx gg.1 + 1))), some (.int (nI (0))), some (.int (nI ((16 * (cpt tl tx (stp tx gg.1) gg.2)) + (pv (tx i14))))), some (.int (nI (i14)))]) E dX1_paintOn_94 (Nat.le_of_ble_eq_true rfl) rfl rfl ?_
            refine V.iconst (v := nI (0)) E dX1_paintOn_96 (by decide) ?_
            refine V.istore (lv' := [some (.ref (p 0)), some (.ref (b 3)), none, some (.int (nI (8 * w_ + gg.1 + 1))), some (.int (nI (rdC tx gg.1 + 1))), some (.int (nI (0))), some (.int (nI (0))), some (.int (nI (i14)))]) E dX1_paintOn_97 (Nat.le_of_ble_eq_true rfl) rfl rfl ?_
            refine V.iincN (lv' := [some (.ref (p 0)), some (.ref (b 3)), none, some (.int (nI (8 * w_ + gg.1 + 1))), some (.int (nI (rdC tx gg.1 + 1))), some (.int (nI (0))), some (.int (nI (0))), some (.int (nI (i14 + 1)))]) E dX1_paintOn_99 rfl (Nat.le_of_ble_eq_true rfl) rfl rfl ?_
            refine V.goto (tgt := 14) E dX1_paintOn_102 (by decide) ?_
            refine V.locN (b := 8 * w_ + ((gg.1 + 1, 0)).1) (lv' := [some (.ref (p 0)), some (.ref (b 3)), none, some (.int (nI (8 * w_ + ((gg.1 + 1, 0)).1))), some (.int (nI (rdC tx gg.1 + 1))), some (.int (nI (0))), some (.int (nI (0))), some (.int (nI (i14 + 1)))]) 3 (rfl) rfl rfl ?_
            refine V.locN (b := rdC tx ((gg.1 + 1, 0)).1) (lv' := [some (.ref (p 0)), some (.ref (b 3)), none, some (.int (nI (8 * w_ + ((gg.1 + 1, 0)).1))), some (.int (nI (rdC tx ((gg.1 + 1, 0)).1))), some (.int (nI (0))), some (.int (nI (0))), some (.int (nI (i14 + 1)))]) 4 (rdC_n (hg_14.nd q_39)) rfl rfl ?_
            refine V.locN (b := ((gg.1 + 1, 0)).2) (lv' := [some (.ref (p 0)), some (.ref (b 3)), none, some (.int (nI (8 * w_ + ((gg.1 + 1, 0)).1))), some (.int (nI (rdC tx ((gg.1 + 1, 0)).1))), some (.int (nI (((gg.1 + 1, 0)).2))), some (.int (nI (0))), some (.int (nI (i14 + 1)))]) 5 (rfl) rfl rfl ?_
            refine V.locN (b := cpt tl tx (stp tx ((gg.1 + 1, 0)).1) ((gg.1 + 1, 0)).2) (lv' := [some (.ref (p 0)), some (.ref (b 3)), none, some (.int (nI (8 * w_ + ((gg.1 + 1, 0)).1))), some (.int (nI (rdC tx ((gg.1 + 1, 0)).1))), some (.int (nI (((gg.1 + 1, 0)).2))), some (.int (nI (cpt tl tx (stp tx ((gg.1 + 1, 0)).1) ((gg.1 + 1, 0)).2))), some (.int (nI (i14 + 1)))]) 6 (rfl) rfl rfl ?_
            show V G A X rm_c_X1_paintOn_f (bl [pdW G p tx tl, scW G b ((scS x, scF x, rdF tl tx (8 * w_) (scB x) ((gg.1 + 1, 0)).1, x.2.2.2))]) 0 0 14 [some (.ref (p 0)), some (.ref (b 3)), none, some (.int (nI (8 * w_ + ((gg.1 + 1, 0)).1))), some (.int (nI (rdC tx ((gg.1 + 1, 0)).1))), some (.int (nI (((gg.1 + 1, 0)).2))), some (.int (nI (cpt tl tx (stp tx ((gg.1 + 1, 0)).1) ((gg.1 + 1, 0)).2))), some (.int (nI (i14 + 1)))] []
            exact ih_14 (by omega) ((gg.1 + 1, 0)) (hg_14.n3 hG hi_14b q_39 q_72)
      · have hi_14b : i14 < tl := q_20
        have hj_ := hg_14.j hG hi_14b
        refine V.iincN (lv' := [some (.ref (p 0)), some (.ref (b 3)), none, some (.int (nI (8 * w_ + gg.1 + 1))), some (.int (nI (rdC tx gg.1))), some (.int (nI (gg.2))), some (.int (nI (cpt tl tx (stp tx gg.1) gg.2))), some (.int (nI (i14)))]) E dX1_paintOn_42 rfl (Nat.le_of_ble_eq_true rfl) rfl rfl ?_
        refine V.goto (tgt := 99) E dX1_paintOn_45 (by decide) ?_
        refine V.iincN (lv' := [some (.ref (p 0)), some (.ref (b 3)), none, some (.int (nI (8 * w_ + gg.1 + 1))), some (.int (nI (rdC tx gg.1))), some (.int (nI (gg.2))), some (.int (nI (cpt tl tx (stp tx gg.1) gg.2))), some (.int (nI (i14 + 1)))]) E dX1_paintOn_99 rfl (Nat.le_of_ble_eq_true rfl) rfl rfl ?_
        refine V.goto (tgt := 14) E dX1_paintOn_102 (by decide) ?_
        refine V.locN (b := 8 * w_ + ((gg.1 + 1, 0)).1) (lv' := [some (.ref (p 0)), some (.ref (b 3)), none, some (.int (nI (8 * w_ + ((gg.1 + 1, 0)).1))), some (.int (nI (rdC tx gg.1))), some (.int (nI (gg.2))), some (.int (nI (cpt tl tx (stp tx gg.1) gg.2))), some (.int (nI (i14 + 1)))]) 3 (rfl) rfl rfl ?_
        refine V.locN (b := rdC tx ((gg.1 + 1, 0)).1) (lv' := [some (.ref (p 0)), some (.ref (b 3)), none, some (.int (nI (8 * w_ + ((gg.1 + 1, 0)).1))), some (.int (nI (rdC tx ((gg.1 + 1, 0)).1))), some (.int (nI (gg.2))), some (.int (nI (cpt tl tx (stp tx gg.1) gg.2))), some (.int (nI (i14 + 1)))]) 4 (rdC_d (hg_14.dot hG hi_14b q_39).2) rfl rfl ?_
        refine V.locN (b := ((gg.1 + 1, 0)).2) (lv' := [some (.ref (p 0)), some (.ref (b 3)), none, some (.int (nI (8 * w_ + ((gg.1 + 1, 0)).1))), some (.int (nI (rdC tx ((gg.1 + 1, 0)).1))), some (.int (nI (((gg.1 + 1, 0)).2))), some (.int (nI (cpt tl tx (stp tx gg.1) gg.2))), some (.int (nI (i14 + 1)))]) 5 ((hg_14.dot hG hi_14b q_39).1) rfl rfl ?_
        refine V.locN (b := cpt tl tx (stp tx ((gg.1 + 1, 0)).1) ((gg.1 + 1, 0)).2) (lv' := [some (.ref (p 0)), some (.ref (b 3)), none, some (.int (nI (8 * w_ + ((gg.1 + 1, 0)).1))), some (.int (nI (rdC tx ((gg.1 + 1, 0)).1))), some (.int (nI (((gg.1 + 1, 0)).2))), some (.int (nI (cpt tl tx (stp tx ((gg.1 + 1, 0)).1) ((gg.1 + 1, 0)).2))), some (.int (nI (i14 + 1)))]) 6 (by rw [(hg_14.dot hG hi_14b q_39).1]; rfl) rfl rfl ?_
        refine V.eqw (ws' := (bl [pdW G p tx tl, scW G b ((scS x, scF x, rdF tl tx (8 * w_) (scB x) ((gg.1 + 1, 0)).1, x.2.2.2))])) (by rw [rdF_d (hg_14.dot hG hi_14b q_39).2]) ?_
        exact ih_14 (by omega) ((gg.1 + 1, 0)) (hg_14.nd0 hG hi_14b q_39)
