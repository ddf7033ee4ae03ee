/-! the class: rectangles and rows of a picture -/
/-- filled so far: the whole lines from T below y, and of line y the columns from L below x -/
def fl2 (T L R c : Nat) (f : Nat → Nat) (y x : Nat) : Nat → Nat := fun j => if (T ≤ j / 8 ∧ j / 8 < y ∧ L ≤ j % 8 ∧ j % 8 ≤ R) ∨ (j / 8 = y ∧ L ≤ j % 8 ∧ j % 8 < x) then c else f j
theorem fl2_0 {T L R c : Nat} {f : Nat → Nat} : f = fl2 T L R c f T L := by
  funext j
  unfold fl2
  rw [if_neg (by omega)]
theorem fl2_u {T L R c y x : Nat} {f : Nat → Nat} (hL : L ≤ x) (hx : x < 8) (j : Nat) : upN (fl2 T L R c f y x) (8 * y + x) c j = fl2 T L R c f y (x + 1) j := by
  unfold upN
  by_cases e : j = 8 * y + x
  · rw [if_pos e]
    unfold fl2
    rw [if_pos (by omega)]
  · rw [if_neg e]
    unfold fl2
    by_cases c : (T ≤ j / 8 ∧ j / 8 < y ∧ L ≤ j % 8 ∧ j % 8 ≤ R) ∨ (j / 8 = y ∧ L ≤ j % 8 ∧ j % 8 < x)
    · rw [if_pos c, if_pos (by omega)]
    · rw [if_neg c, if_neg (by omega)]
theorem fl2_n {T L R c y x : Nat} {f : Nat → Nat} (hT : T ≤ y) (hx : R < x) (hx2 : x ≤ R + 1) : fl2 T L R c f y x = fl2 T L R c f (y + 1) L := by
  funext j
  unfold fl2
  by_cases c : (T ≤ j / 8 ∧ j / 8 < y ∧ L ≤ j % 8 ∧ j % 8 ≤ R) ∨ (j / 8 = y ∧ L ≤ j % 8 ∧ j % 8 < x)
  · rw [if_pos c, if_pos (by omega)]
  · rw [if_neg c, if_neg (by omega)]
theorem fl2_e (p r c : Nat) (f : Nat → Nat) : fl2 (min (p / 8) (r / 8)) (min (p % 8) (r % 8)) (max (p % 8) (r % 8)) c f (max (p / 8) (r / 8) + 1) (min (p % 8) (r % 8)) = filR p r c f := by
  funext j
  unfold fl2 filR inR
  by_cases h : (min (p % 8) (r % 8) ≤ j % 8 ∧ j % 8 ≤ max (p % 8) (r % 8)) ∧ (min (p / 8) (r / 8) ≤ j / 8 ∧ j / 8 ≤ max (p / 8) (r / 8))
  · rw [if_pos (by omega), if_pos (by rw [decide_eq_true h.1, decide_eq_true h.2]; rfl)]
  · rw [if_neg (by omega), if_neg (by rw [Bool.and_eq_true, decide_eq_true_eq, decide_eq_true_eq]; exact h)]
/-- how many pixels a rectangle has -/
def arR (p r : Nat) : Nat := (max (p % 8) (r % 8) - min (p % 8) (r % 8) + 1) * (max (p / 8) (r / 8) - min (p / 8) (r / 8) + 1)
theorem V.eqw {G : VC} {A : Nat → Prop} {X : VX} {R : Room} {ws ws' : va_W} {kc ks pc : Nat} {lv : List (Option Value)} {st : List Value} (h : ws = ws') (k : V G A X R ws' kc ks pc lv st) : V G A X R ws kc ks pc lv st := by rw [h]; exact k
abbrev rm_c_X4_fillBetween_t : Room := { frames := 1, cells := 0, slots := 0, locals := 21 }
theorem hd_X4_fillBetween : yX4_fillBetween.cls ≠ "java/lang/invoke/MethodHandle" ∧ yX4_fillBetween.cls ≠ "java/lang/invoke/VarHandle" ∧ (parseMethodDescriptor yX4_fillBetween.desc).map (fun d => d.parameters.length) = some 4 := by decide +kernel
set_option maxRecDepth 100000 in
set_option maxHeartbeats 8000000 in
theorem c_X4_fillBetween_t (G : VC) (b : Nat → Nat) (x : SC) (p_ : Nat) (r_ : Nat) (c_ : Nat) (hp : p_ < 48) (hr_ : r_ < 48) : Ctr yX4_fillBetween wsX4_fillBetween rm_c_X4_fillBetween_t G [.ref (b 2), .int (nI (p_)), .int (nI (r_)), .int (nI (c_))] (bl [scW G b x]) (fun v9_ u9_ => u9_ = (bl [scW G b ((scS x, filR p_ r_ c_ (scF x), x.2.2))]) ∧ v9_ = some (.int (nI (arR p_ r_)))) := by
  refine Ctr.int (cc := cX4_fillBetween) (maxL := 10) (ret := (some .int)) (lv0 := [some (.ref (b 2)), some (.int (nI (p_))), some (.int (nI (r_))), some (.int (nI (c_))), none, none, none, none, none, none]) (by decide) rfl rfl rfl (Nat.le_of_ble_eq_true rfl) rfl (fun A X E hend => ?_)
  refine V.iload_n E dX4_fillBetween_0 rfl rfl ?_
  refine V.bipush (v := nI (8)) E dX4_fillBetween_1 (by decide) ?_
  refine V.iremN E (by omega) (by omega) (by omega) dX4_fillBetween_3 ?_
  refine V.iload_n E dX4_fillBetween_4 rfl rfl ?_
  refine V.bipush (v := nI (8)) E dX4_fillBetween_5 (by decide) ?_
  refine V.iremN E (by omega) (by omega) (by omega) dX4_fillBetween_7 ?_
  refine V.mmin E ⟨(by decide +kernel), (by decide +kernel), (by decide +kernel), (by decide +kernel)⟩ ⟨Nat.le_of_ble_eq_true rfl, Nat.le_of_ble_eq_true rfl, Nat.le_of_ble_eq_true rfl, Nat.le_of_ble_eq_true rfl⟩ rfl dX4_fillBetween_8 ?_
  refine V.top (y := nI (min (p_ % 8) (r_ % 8))) (mm_min (by omega) (by omega)) ?_
  refine V.istore (lv' := [some (.ref (b 2)), some (.int (nI (p_))), some (.int (nI (r_))), some (.int (nI (c_))), some (.int (nI (min (p_ % 8) (r_ % 8)))), none, none, none, none, none]) E dX4_fillBetween_11 (Nat.le_of_ble_eq_true rfl) rfl rfl ?_
  refine V.iload_n E dX4_fillBetween_13 rfl rfl ?_
  refine V.bipush (v := nI (8)) E dX4_fillBetween_14 (by decide) ?_
  refine V.iremN E (by omega) (by omega) (by omega) dX4_fillBetween_16 ?_
  refine V.iload_n E dX4_fillBetween_17 rfl rfl ?_
  refine V.bipush (v := nI (8)) E dX4_fillBetween_18 (by decide) ?_
  refine V.iremN E (by omega) (by omega) (by omega) dX4_fillBetween_20 ?_
  refine V.mmax E ⟨(by decide +kernel), (by decide +kernel), (by decide +kernel), (by decide +kernel)⟩ ⟨Nat.le_of_ble_eq_true rfl, Nat.le_of_ble_eq_true rfl, Nat.le_of_ble_eq_true rfl, Nat.le_of_ble_eq_true rfl⟩ rfl dX4_fillBetween_21 ?_
  refine V.top (y := nI (max (p_ % 8) (r_ % 8))) (mm_max (by omega) (by omega)) ?_
  refine V.istore (lv' := [some (.ref (b 2)), some (.int (nI (p_))), some (.int (nI (r_))), some (.int (nI (c_))), some (.int (nI (min (p_ % 8) (r_ % 8)))), some (.int (nI (max (p_ % 8) (r_ % 8)))), none, none, none, none]) E dX4_fillBetween_24 (Nat.le_of_ble_eq_true rfl) rfl rfl ?_
  refine V.iload_n E dX4_fillBetween_26 rfl rfl ?_
  refine V.bipush (v := nI (8)) E dX4_fillBetween_27 (by decide) ?_
  refine V.idivN E (by omega) (by omega) (by omega) dX4_fillBetween_29 ?_
  refine V.iload_n E dX4_fillBetween_30 rfl rfl ?_
  refine V.bipush (v := nI (8)) E dX4_fillBetween_31 (by decide) ?_
  refine V.idivN E (by omega) (by omega) (by omega) dX4_fillBetween_33 ?_
  refine V.mmin E ⟨(by decide +kernel), (by decide +kernel), (by decide +kernel), (by decide +kernel)⟩ ⟨Nat.le_of_ble_eq_true rfl, Nat.le_of_ble_eq_true rfl, Nat.le_of_ble_eq_true rfl, Nat.le_of_ble_eq_true rfl⟩ rfl dX4_fillBetween_34 ?_
  refine V.top (y := nI (min (p_ / 8) (r_ / 8))) (mm_min (by omega) (by omega)) ?_
  refine V.istore (lv' := [some (.ref (b 2)), some (.int (nI (p_))), some (.int (nI (r_))), some (.int (nI (c_))), some (.int (nI (min (p_ % 8) (r_ % 8)))), some (.int (nI (max (p_ % 8) (r_ % 8)))), some (.int (nI (min (p_ / 8) (r_ / 8)))), none, none, none]) E dX4_fillBetween_37 (Nat.le_of_ble_eq_true rfl) rfl rfl ?_
  refine V.iload_n E dX4_fillBetween_39 rfl rfl ?_
  refine V.bipush (v := nI (8)) E dX4_fillBetween_40 (by decide) ?_
  refine V.idivN E (by omega) (by omega) (by omega) dX4_fillBetween_42 ?_
  refine V.iload_n E dX4_fillBetween_43 rfl rfl ?_
  refine V.bipush (v := nI (8)) E dX4_fillBetween_44 (by decide) ?_
  refine V.idivN E (by omega) (by omega) (by omega) dX4_fillBetween_46 ?_
  refine V.mmax E ⟨(by decide +kernel), (by decide +kernel), (by decide +kernel), (by decide +kernel)⟩ ⟨Nat.le_of_ble_eq_true rfl, Nat.le_of_ble_eq_true rfl, Nat.le_of_ble_eq_true rfl, Nat.le_of_ble_eq_true rfl⟩ rfl dX4_fillBetween_47 ?_
  refine V.top (y := nI (max (p_ / 8) (r_ / 8))) (mm_max (by omega) (by omega)) ?_
  refine V.istore (lv' := [some (.ref (b 2)), some (.int (nI (p_))), some (.int (nI (r_))), some (.int (nI (c_))), some (.int (nI (min (p_ % 8) (r_ % 8)))), some (.int (nI (max (p_ % 8) (r_ % 8)))), some (.int (nI (min (p_ / 8) (r_ / 8)))), some (.int (nI (max (p_ / 8) (r_ / 8)))), none, none]) E dX4_fillBetween_50 (Nat.le_of_ble_eq_true rfl) rfl rfl ?_
  refine V.iload E dX4_fillBetween_52 rfl ?_
  refine V.istore (lv' := [some (.ref (b 2)), some (.int (nI (p_))), some (.int (nI (r_))), some (.int (nI (c_))), some (.int (nI (min (p_ % 8) (r_ % 8)))), some (.int (nI (max (p_ % 8) (r_ % 8)))), some (.int (nI (min (p_ / 8) (r_ / 8)))), some (.int (nI (max (p_ / 8) (r_ / 8)))), some (.int (nI (min (p_ / 8) (r_ / 8)))), none]) E dX4_fillBetween_54 (Nat.le_of_ble_eq_true rfl) rfl rfl ?_
  refine V.drop (lv' := [some (.ref (b 2)), none, none, some (.int (nI (c_))), some (.int (nI (min (p_ % 8) (r_ % 8)))), some (.int (nI (max (p_ % 8) (r_ % 8)))), some (.int (nI (min (p_ / 8) (r_ / 8)))), some (.int (nI (max (p_ / 8) (r_ / 8)))), some (.int (nI (min (p_ / 8) (r_ / 8)))), none]) [true, false, false, true, true, true, true, true, true, true] rfl ?_
  have ex : x = (scS x, fl2 (min (p_ / 8) (r_ / 8)) (min (p_ % 8) (r_ % 8)) (max (p_ % 8) (r_ % 8)) c_ (scF x) (min (p_ / 8) (r_ / 8)) (min (p_ % 8) (r_ % 8)), x.2.2) := by rw [← fl2_0]
  refine V.eqw (ws' := (bl [scW G b ((scS x, fl2 (min (p_ / 8) (r_ / 8)) (min (p_ % 8) (r_ % 8)) (max (p_ % 8) (r_ % 8)) c_ (scF x) (min (p_ / 8) (r_ / 8)) (min (p_ % 8) (r_ % 8)), x.2.2))])) (by rw [← ex]) ?_
  refine loopN (P := fun i56 => ∀ zz : Unit, (min (p_ / 8) (r_ / 8) ≤ i56) → V G A X rm_c_X4_fillBetween_t (bl [scW G b ((scS x, fl2 (min (p_ / 8) (r_ / 8)) (min (p_ % 8) (r_ % 8)) (max (p_ % 8) (r_ % 8)) c_ (scF x) i56 (min (p_ % 8) (r_ % 8)), x.2.2))]) 0 0 56 [some (.ref (b 2)), none, none, some (.int (nI (c_))), some (.int (nI (min (p_ % 8) (r_ % 8)))), some (.int (nI (max (p_ % 8) (r_ % 8)))), some (.int (nI (min (p_ / 8) (r_ / 8)))), some (.int (nI (max (p_ / 8) (r_ / 8)))), some (.int (nI (i56))), none] []) (max (p_ / 8) (r_ / 8) + 1) (fun i56 hi_56 ih_56 zz hg_56 => ?_) (min (p_ / 8) (r_ / 8)) (by omega) (()) (Nat.le_refl _)
  refine V.iload E dX4_fillBetween_56 rfl ?_
  refine V.iload E dX4_fillBetween_58 rfl ?_
  refine V.icmp_gtN (tgt := 97) E (by omega) (by omega) dX4_fillBetween_60 (by decide) (fun q_60 => ?_) (fun q_60 => ?_)
  · obtain rfl : max (p_ / 8) (r_ / 8) + 1 = i56 := by omega
    refine V.eqw (ws' := (bl [scW G b ((scS x, filR p_ r_ c_ (scF x), x.2.2))])) (by rw [fl2_e]) ?_
    refine V.iload E dX4_fillBetween_97 rfl ?_
    refine V.iload E dX4_fillBetween_99 rfl ?_
    refine V.isubN E (by omega) dX4_fillBetween_101 ?_
    refine V.iconst (v := nI (1)) E dX4_fillBetween_102 (by decide) ?_
    refine V.iaddN E  dX4_fillBetween_103 ?_
    refine V.iload E dX4_fillBetween_104 rfl ?_
    refine V.iload E dX4_fillBetween_106 rfl ?_
    refine V.isubN E (by omega) dX4_fillBetween_108 ?_
    refine V.iconst (v := nI (1)) E dX4_fillBetween_109 (by decide) ?_
    refine V.iaddN E  dX4_fillBetween_110 ?_
    refine V.imulN E  dX4_fillBetween_111 ?_
    refine V.topN (b := arR p_ r_) (rfl) ?_
    exact hend _ _ _ _ dX4_fillBetween_112 (nrI _) ⟨rfl, rfl⟩
  · refine V.iload E dX4_fillBetween_63 rfl ?_
    refine V.istore (lv' := [some (.ref (b 2)), none, none, some (.int (nI (c_))), some (.int (nI (min (p_ % 8) (r_ % 8)))), some (.int (nI (max (p_ % 8) (r_ % 8)))), some (.int (nI (min (p_ / 8) (r_ / 8)))), some (.int (nI (max (p_ / 8) (r_ / 8)))), some (.int (nI (i56))), some (.int (nI (min (p_ % 8) (r_ % 8))))]) E dX4_fillBetween_65 (Nat.le_of_ble_eq_true rfl) rfl rfl ?_
    refine loopN (P := fun i67 => ∀ yy : Unit, (min (p_ % 8) (r_ % 8) ≤ i67) → V G A X rm_c_X4_fillBetween_t (bl [scW G b ((scS x, fl2 (min (p_ / 8) (r_ / 8)) (min (p_ % 8) (r_ % 8)) (max (p_ % 8) (r_ % 8)) c_ (scF x) i56 i67, x.2.2))]) 0 0 67 [some (.ref (b 2)), none, none, some (.int (nI (c_))), some (.int (nI (min (p_ % 8) (r_ % 8)))), some (.int (nI (max (p_ % 8) (r_ % 8)))), some (.int (nI (min (p_ / 8) (r_ / 8)))), some (.int (nI (max (p_ / 8) (r_ / 8)))), some (.int (nI (i56))), some (.int (nI (i67)))] []) (max (p_ % 8) (r_ % 8) + 1) (fun i67 hi_67 ih_67 yy hg_67 => ?_) (min (p_ % 8) (r_ % 8)) (by omega) (()) (Nat.le_refl _)
    refine V.iload E dX4_fillBetween_67 rfl ?_
    refine V.iload E dX4_fillBetween_69 rfl ?_
    refine V.icmp_gtN (tgt := 91) E (by omega) (by omega) dX4_fillBetween_71 (by decide) (fun q_71 => ?_) (fun q_71 => ?_)
    · obtain rfl : max (p_ % 8) (r_ % 8) + 1 = i67 := by omega
      refine V.iincN (lv' := [some (.ref (b 2)), none, none, some (.int (nI (c_))), some (.int (nI (min (p_ % 8) (r_ % 8)))), some (.int (nI (max (p_ % 8) (r_ % 8)))), some (.int (nI (min (p_ / 8) (r_ / 8)))), some (.int (nI (max (p_ / 8) (r_ / 8)))), some (.int (nI (i56 + 1))), some (.int (nI (max (p_ % 8) (r_ % 8) + 1)))]) E dX4_fillBetween_91 rfl (Nat.le_of_ble_eq_true rfl) rfl rfl ?_
      refine V.goto (tgt := 56) E dX4_fillBetween_94 (by decide) ?_
      refine V.drop (lv' := [some (.ref (b 2)), none, none, some (.int (nI (c_))), some (.int (nI (min (p_ % 8) (r_ % 8)))), some (.int (nI (max (p_ % 8) (r_ % 8)))), some (.int (nI (min (p_ / 8) (r_ / 8)))), some (.int (nI (max (p_ / 8) (r_ / 8)))), some (.int (nI (i56 + 1))), none]) [true, true, true, true, true, true, true, true, true, false] rfl ?_
      refine V.eqw (ws' := (bl [scW G b ((scS x, fl2 (min (p_ / 8) (r_ / 8)) (min (p_ % 8) (r_ % 8)) (max (p_ % 8) (r_ % 8)) c_ (scF x) (i56 + 1) (min (p_ % 8) (r_ % 8)), x.2.2))])) (by rw [fl2_n (by omega) (Nat.lt_succ_self _) (Nat.le_refl _)]) ?_
      exact ih_56 (by omega) (()) (by omega)
    · refine V.aload_n E dX4_fillBetween_74 rfl rfl ?_
      refine V.bipush (v := nI (8)) E dX4_fillBetween_75 (by decide) ?_
      refine V.iload E dX4_fillBetween_77 rfl ?_
      refine V.imulN E  dX4_fillBetween_79 ?_
      refine V.iload E dX4_fillBetween_80 rfl ?_
      refine V.iaddN E  dX4_fillBetween_82 ?_
      refine V.iload_n E dX4_fillBetween_83 rfl rfl ?_
      refine V.iastN (f' := nA (fl2 (min (p_ / 8) (r_ / 8)) (min (p_ % 8) (r_ % 8)) (max (p_ % 8) (r_ % 8)) c_ (scF x) i56 (i67 + 1))) (ws' := (bl [scW G b ((scS x, fl2 (min (p_ / 8) (r_ / 8)) (min (p_ % 8) (r_ % 8)) (max (p_ % 8) (r_ % 8)) c_ (scF x) i56 (i67 + 1), x.2.2))])) E 2 rfl (by omega) (by decide) dX4_fillBetween_84 (fun j _ => (upN_a j).trans (congrArg nI (fl2_u hg_67 (by omega) j))) rfl ?_
      refine V.iincN (lv' := [some (.ref (b 2)), none, none, some (.int (nI (c_))), some (.int (nI (min (p_ % 8) (r_ % 8)))), some (.int (nI (max (p_ % 8) (r_ % 8)))), some (.int (nI (min (p_ / 8) (r_ / 8)))), some (.int (nI (max (p_ / 8) (r_ / 8)))), some (.int (nI (i56))), some (.int (nI (i67 + 1)))]) E dX4_fillBetween_85 rfl (Nat.le_of_ble_eq_true rfl) rfl rfl ?_
      refine V.goto (tgt := 67) E dX4_fillBetween_88 (by decide) ?_
      exact ih_67 (by omega) (()) (by omega)
abbrev rm_c_X4_fillBetween_f : Room := { frames := 1, cells := 0, slots := 0, locals := 21 }
set_option maxRecDepth 100000 in
set_option maxHeartbeats 8000000 in
theorem c_X4_fillBetween_f (G : VC) (b : Nat → Nat) (x : SC) (p_ : Nat) (r_ : Nat) (c_ : Nat) (hp : p_ < 48) (hr_ : r_ < 48) : Ctr yX4_fillBetween wsX4_fillBetween rm_c_X4_fillBetween_f G [.ref (b 3), .int (nI (p_)), .int (nI (r_)), .int (nI (c_))] (bl [scW G b x]) (fun v9_ u9_ => u9_ = (bl [scW G b ((scS x, scF x, filR p_ r_ c_ (scB x), x.2.2.2))]) ∧ v9_ = some (.int (nI (arR p_ r_)))) := by
  refine Ctr.int (cc := cX4_fillBetween) (maxL := 10) (ret := (some .int)) (lv0 := [some (.ref (b 3)), some (.int (nI (p_))), some (.int (nI (r_))), some (.int (nI (c_))), none, none, none, none, none, none]) (by decide) rfl rfl rfl (Nat.le_of_ble_eq_true rfl) rfl (fun A X E hend => ?_)
  refine V.iload_n E dX4_fillBetween_0 rfl rfl ?_
  refine V.bipush (v := nI (8)) E dX4_fillBetween_1 (by decide) ?_
  refine V.iremN E (by omega) (by omega) (by omega) dX4_fillBetween_3 ?_
  refine V.iload_n E dX4_fillBetween_4 rfl rfl ?_
  refine V.bipush (v := nI (8)) E dX4_fillBetween_5 (by decide) ?_
  refine V.iremN E (by omega) (by omega) (by omega) dX4_fillBetween_7 ?_
  refine V.mmin E ⟨(by decide +kernel), (by decide +kernel), (by decide +kernel), (by decide +kernel)⟩ ⟨Nat.le_of_ble_eq_true rfl, Nat.le_of_ble_eq_true rfl, Nat.le_of_ble_eq_true rfl, Nat.le_of_ble_eq_true rfl⟩ rfl dX4_fillBetween_8 ?_
  refine V.top (y := nI (min (p_ % 8) (r_ % 8))) (mm_min (by omega) (by omega)) ?_
  refine V.istore (lv' := [some (.ref (b 3)), some (.int (nI (p_))), some (.int (nI (r_))), some (.int (nI (c_))), some (.int (nI (min (p_ % 8) (r_ % 8)))), none, none, none, none, none]) E dX4_fillBetween_11 (Nat.le_of_ble_eq_true rfl) rfl rfl ?_
  refine V.iload_n E dX4_fillBetween_13 rfl rfl ?_
  refine V.bipush (v := nI (8)) E dX4_fillBetween_14 (by decide) ?_
  refine V.iremN E (by omega) (by omega) (by omega) dX4_fillBetween_16 ?_
  refine V.iload_n E dX4_fillBetween_17 rfl rfl ?_
  refine V.bipush (v := nI (8)) E dX4_fillBetween_18 (by decide) ?_
  refine V.iremN E (by omega) (by omega) (by omega) dX4_fillBetween_20 ?_
  refine V.mmax E ⟨(by decide +kernel), (by decide +kernel), (by decide +kernel), (by decide +kernel)⟩ ⟨Nat.le_of_ble_eq_true rfl, Nat.le_of_ble_eq_true rfl, Nat.le_of_ble_eq_true rfl, Nat.le_of_ble_eq_true rfl⟩ rfl dX4_fillBetween_21 ?_
  refine V.top (y := nI (max (p_ % 8) (r_ % 8))) (mm_max (by omega) (by omega)) ?_
  refine V.istore (lv' := [some (.ref (b 3)), some (.int (nI (p_))), some (.int (nI (r_))), some (.int (nI (c_))), some (.int (nI (min (p_ % 8) (r_ % 8)))), some (.int (nI (max (p_ % 8) (r_ % 8)))), none, none, none, none]) E dX4_fillBetween_24 (Nat.le_of_ble_eq_true rfl) rfl rfl ?_
  refine V.iload_n E dX4_fillBetween_26 rfl rfl ?_
  refine V.bipush (v := nI (8)) E dX4_fillBetween_27 (by decide) ?_
  refine V.idivN E (by omega) (by omega) (by omega) dX4_fillBetween_29 ?_
  refine V.iload_n E dX4_fillBetween_30 rfl rfl ?_
  refine V.bipush (v := nI (8)) E dX4_fillBetween_31 (by decide) ?_
  refine V.idivN E (by omega) (by omega) (by omega) dX4_fillBetween_33 ?_
  refine V.mmin E ⟨(by decide +kernel), (by decide +kernel), (by decide +kernel), (by decide +kernel)⟩ ⟨Nat.le_of_ble_eq_true rfl, Nat.le_of_ble_eq_true rfl, Nat.le_of_ble_eq_true rfl, Nat.le_of_ble_eq_true rfl⟩ rfl dX4_fillBetween_34 ?_
  refine V.top (y := nI (min (p_ / 8) (r_ / 8))) (mm_min (by omega) (by omega)) ?_
  refine V.istore (lv' := [some (.ref (b 3)), some (.int (nI (p_))), some (.int (nI (r_))), some (.int (nI (c_))), some (.int (nI (min (p_ % 8) (r_ % 8)))), some (.int (nI (max (p_ % 8) (r_ % 8)))), some (.int (nI (min (p_ / 8) (r_ / 8)))), none, none, none]) E dX4_fillBetween_37 (Nat.le_of_ble_eq_true rfl) rfl rfl ?_
  refine V.iload_n E dX4_fillBetween_39 rfl rfl ?_
  refine V.bipush (v := nI (8)) E dX4_fillBetween_40 (by decide) ?_
  refine V.idivN E (by omega) (by omega) (by omega) dX4_fillBetween_42 ?_
  refine V.iload_n E dX4_fillBetween_43 rfl rfl ?_
  refine V.bipush (v := nI (8)) E dX4_fillBetween_44 (by decide) ?_
  refine V.idivN E (by omega) (by omega) (by omega) dX4_fillBetween_46 ?_
  refine V.mmax E ⟨(by decide +kernel), (by decide +kernel), (by decide +kernel), (by decide +kernel)⟩ ⟨Nat.le_of_ble_eq_true rfl, Nat.le_of_ble_eq_true rfl, Nat.le_of_ble_eq_true rfl, Nat.le_of_ble_eq_true rfl⟩ rfl dX4_fillBetween_47 ?_
  refine V.top (y := nI (max (p_ / 8) (r_ / 8))) (mm_max (by omega) (by omega)) ?_
  refine V.istore (lv' := [some (.ref (b 3)), some (.int (nI (p_))), some (.int (nI (r_))), some (.int (nI (c_))), some (.int (nI (min (p_ % 8) (r_ % 8)))), some (.int (nI (max (p_ % 8) (r_ % 8)))), some (.int (nI (min (p_ / 8) (r_ / 8)))), some (.int (nI (max (p_ / 8) (r_ / 8)))), none, none]) E dX4_fillBetween_50 (Nat.le_of_ble_eq_true rfl) rfl rfl ?_
  refine V.iload E dX4_fillBetween_52 rfl ?_
  refine V.istore (lv' := [some (.ref (b 3)), some (.int (nI (p_))), some (.int (nI (r_))), some (.int (nI (c_))), some (.int (nI (min (p_ % 8) (r_ % 8)))), some (.int (nI (max (p_ % 8) (r_ % 8)))), some (.int (nI (min (p_ / 8) (r_ / 8)))), some (.int (nI (max (p_ / 8) (r_ / 8)))), some (.int (nI (min (p_ / 8) (r_ / 8)))), none]) E dX4_fillBetween_54 (Nat.le_of_ble_eq_true rfl) rfl rfl ?_
  refine V.drop (lv' := [some (.ref (b 3)), none, none, some (.int (nI (c_))), some (.int (nI (min (p_ % 8) (r_ % 8)))), some (.int (nI (max (p_ % 8) (r_ % 8)))), some (.int (nI (min (p_ / 8) (r_ / 8)))), some (.int (nI (max (p_ / 8) (r_ / 8)))), some (.int (nI (min (p_ / 8) (r_ / 8)))), none]) [true, false, false, true, true, true, true, true, true, true] rfl ?_
  have ex : x = (scS x, scF x, fl2 (min (p_ / 8) (r_ / 8)) (min (p_ % 8) (r_ % 8)) (max (p_ % 8) (r_ % 8)) c_ (scB x) (min (p_ / 8) (r_ / 8)) (min (p_ % 8) (r_ % 8)), x.2.2.2) := by rw [← fl2_0]
  refine V.eqw (ws' := (bl [scW G b ((scS x, scF x, fl2 (min (p_ / 8) (r_ / 8)) (min (p_ % 8) (r_ % 8)) (max (p_ % 8) (r_ % 8)) c_ (scB x) (min (p_ / 8) (r_ / 8)) (min (p_ % 8) (r_ % 8)), x.2.2.2))])) (by rw [← ex]) ?_
  refine loopN (P := fun i56 => ∀ zz : Unit, (min (p_ / 8) (r_ / 8) ≤ i56) → V G A X rm_c_X4_fillBetween_f (bl [scW G b ((scS x, scF x, fl2 (min (p_ / 8) (r_ / 8)) (min (p_ % 8) (r_ % 8)) (max (p_ % 8) (r_ % 8)) c_ (scB x) i56 (min (p_ % 8) (r_ % 8)), x.2.2.2))]) 0 0 56 [some (.ref (b 3)), none, none, some (.int (nI (c_))), some (.int (nI (min (p_ % 8) (r_ % 8)))), some (.int (nI (max (p_ % 8) (r_ % 8)))), some (.int (nI (min (p_ / 8) (r_ / 8)))), some (.int (nI (max (p_ / 8) (r_ / 8)))), some (.int (nI (i56))), none] []) (max (p_ / 8) (r_ / 8) + 1) (fun i56 hi_56 ih_56 zz hg_56 => ?_) (min (p_ / 8) (r_ / 8)) (by omega) (()) (Nat.le_refl _)
  refine V.iload E dX4_fillBetween_56 rfl ?_
  refine V.iload E dX4_fillBetween_58 rfl ?_
  refine V.icmp_gtN (tgt := 97) E (by omega) (by omega) dX4_fillBetween_60 (by decide) (fun q_60 => ?_) (fun q_60 => ?_)
  · obtain rfl : max (p_ / 8) (r_ / 8) + 1 = i56 := by omega
    refine V.eqw (ws' := (bl [scW G b ((scS x, scF x, filR p_ r_ c_ (scB x), x.2.2.2))])) (by rw [fl2_e]) ?_
    refine V.iload E dX4_fillBetween_97 rfl ?_
    refine V.iload E dX4_fillBetween_99 rfl ?_
    refine V.isubN E (by omega) dX4_fillBetween_101 ?_
    refine V.iconst (v := nI (1)) E dX4_fillBetween_102 (by decide) ?_
    refine V.iaddN E  dX4_fillBetween_103 ?_
    refine V.iload E dX4_fillBetween_104 rfl ?_
    refine V.iload E dX4_fillBetween_106 rfl ?_
    refine V.isubN E (by omega) dX4_fillBetween_108 ?_
    refine V.iconst (v := nI (1)) E dX4_fillBetween_109 (by decide) ?_
    refine V.iaddN E  dX4_fillBetween_110 ?_
    refine V.imulN E  dX4_fillBetween_111 ?_
    refine V.topN (b := arR p_ r_) (rfl) ?_
    exact hend _ _ _ _ dX4_fillBetween_112 (nrI _) ⟨rfl, rfl⟩
  · refine V.iload E dX4_fillBetween_63 rfl ?_
    refine V.istore (lv' := [some (.ref (b 3)), none, none, some (.int (nI (c_))), some (.int (nI (min (p_ % 8) (r_ % 8)))), some (.int (nI (max (p_ % 8) (r_ % 8)))), some (.int (nI (min (p_ / 8) (r_ / 8)))), some (.int (nI (max (p_ / 8) (r_ / 8)))), some (.int (nI (i56))), some (.int (nI (min (p_ % 8) (r_ % 8))))]) E dX4_fillBetween_65 (Nat.le_of_ble_eq_true rfl) rfl rfl ?_
    refine loopN (P := fun i67 => ∀ yy : Unit, (min (p_ % 8) (r_ % 8) ≤ i67) → V G A X rm_c_X4_fillBetween_f (bl [scW G b ((scS x, scF x, fl2 (min (p_ / 8) (r_ / 8)) (min (p_ % 8) (r_ % 8)) (max (p_ % 8) (r_ % 8)) c_ (scB x) i56 i67, x.2.2.2))]) 0 0 67 [some (.ref (b 3)), none, none, some (.int (nI (c_))), some (.int (nI (min (p_ % 8) (r_ % 8)))), some (.int (nI (max (p_ % 8) (r_ % 8)))), some (.int (nI (min (p_ / 8) (r_ / 8)))), some (.int (nI (max (p_ / 8) (r_ / 8)))), some (.int (nI (i56))), some (.int (nI (i67)))] []) (max (p_ % 8) (r_ % 8) + 1) (fun i67 hi_67 ih_67 yy hg_67 => ?_) (min (p_ % 8) (r_ % 8)) (by omega) (()) (Nat.le_refl _)
    refine V.iload E dX4_fillBetween_67 rfl ?_
    refine V.iload E dX4_fillBetween_69 rfl ?_
    refine V.icmp_gtN (tgt := 91) E (by omega) (by omega) dX4_fillBetween_71 (by decide) (fun q_71 => ?_) (fun q_71 => ?_)
    · obtain rfl : max (p_ % 8) (r_ % 8) + 1 = i67 := by omega
      refine V.iincN (lv' := [some (.ref (b 3)), none, none, some (.int (nI (c_))), some (.int (nI (min (p_ % 8) (r_ % 8)))), some (.int (nI (max (p_ % 8) (r_ % 8)))), some (.int (nI (min (p_ / 8) (r_ / 8)))), some (.int (nI (max (p_ / 8) (r_ / 8)))), some (.int (nI (i56 + 1))), some (.int (nI (max (p_ % 8) (r_ % 8) + 1)))]) E dX4_fillBetween_91 rfl (Nat.le_of_ble_eq_true rfl) rfl rfl ?_
      refine V.goto (tgt := 56) E dX4_fillBetween_94 (by decide) ?_
      refine V.drop (lv' := [some (.ref (b 3)), none, none, some (.int (nI (c_))), some (.int (nI (min (p_ % 8) (r_ % 8)))), some (.int (nI (max (p_ % 8) (r_ % 8)))), some (.int (nI (min (p_ / 8) (r_ / 8)))), some (.int (nI (max (p_ / 8) (r_ / 8)))), some (.int (nI (i56 + 1))), none]) [true, true, true, true, true, true, true, true, true, false] rfl ?_
      refine V.eqw (ws' := (bl [scW G b ((scS x, scF x, fl2 (min (p_ / 8) (r_ / 8)) (min (p_ % 8) (r_ % 8)) (max (p_ % 8) (r_ % 8)) c_ (scB x) (i56 + 1) (min (p_ % 8) (r_ % 8)), x.2.2.2))])) (by rw [fl2_n (by omega) (Nat.lt_succ_self _) (Nat.le_refl _)]) ?_
      exact ih_56 (by omega) (()) (by omega)
    · refine V.aload_n E dX4_fillBetween_74 rfl rfl ?_
      refine V.bipush (v := nI (8)) E dX4_fillBetween_75 (by decide) ?_
      refine V.iload E dX4_fillBetween_77 rfl ?_
      refine V.imulN E  dX4_fillBetween_79 ?_
      refine V.iload E dX4_fillBetween_80 rfl ?_
      refine V.iaddN E  dX4_fillBetween_82 ?_
      refine V.iload_n E dX4_fillBetween_83 rfl rfl ?_
      refine V.iastN (f' := nA (fl2 (min (p_ / 8) (r_ / 8)) (min (p_ % 8) (r_ % 8)) (max (p_ % 8) (r_ % 8)) c_ (scB x) i56 (i67 + 1))) (ws' := (bl [scW G b ((scS x, scF x, fl2 (min (p_ / 8) (r_ / 8)) (min (p_ % 8) (r_ % 8)) (max (p_ % 8) (r_ % 8)) c_ (scB x) i56 (i67 + 1), x.2.2.2))])) E 3 rfl (by omega) (by decide) dX4_fillBetween_84 (fun j _ => (upN_a j).trans (congrArg nI (fl2_u hg_67 (by omega) j))) rfl ?_
      refine V.iincN (lv' := [some (.ref (b 3)), none, none, some (.int (nI (c_))), some (.int (nI (min (p_ % 8) (r_ % 8)))), some (.int (nI (max (p_ % 8) (r_ % 8)))), some (.int (nI (min (p_ / 8) (r_ / 8)))), some (.int (nI (max (p_ / 8) (r_ / 8)))), some (.int (nI (i56))), some (.int (nI (i67 + 1)))]) E dX4_fillBetween_85 rfl (Nat.le_of_ble_eq_true rfl) rfl rfl ?_
      refine V.goto (tgt := 67) E dX4_fillBetween_88 (by decide) ?_
      exact ih_67 (by omega) (()) (by omega)
