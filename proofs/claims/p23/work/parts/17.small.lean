/-! the class: small methods of the pad, of the history, of the checks -/
theorem xor6 : ∀ a, a < 12 → nI a ^^^ nI 6 = nI (a ^^^ 6) ∧ a ^^^ 6 < 16 := by decide
def prI (c : Nat) : Int32 := if isP c = true then nI (pv c) else -1
theorem prI_t {c : Nat} (h : isP c = true) : prI c = nI (pv c) := if_pos h
theorem prI_lt {c : Nat} (h : prI c < 0) : isP c = false := by
  cases e : isP c
  · rfl
  · have := pv_lt e
    rw [prI_t e, i_lt, nI_toInt (by omega), i_0] at h
    omega
theorem prI_ge {c : Nat} (h : ¬ prI c < 0) : isP c = true := by
  cases e : isP c
  · exact absurd (by unfold prI; rw [if_neg (by rw [e]; decide)]; decide) h
  · rfl
theorem prI_1 {c : Nat} (h1 : 48 ≤ c) (h2 : c ≤ 57) : nI (c - 48) = prI c := by
  have e := isP_1 (c := c) (decide_eq_true ⟨h1, h2⟩)
  rw [prI_t e.1, e.2]
theorem prI_2 {c : Nat} (h1 : 97 ≤ c) (h2 : c ≤ 102) : nI (c - 97 + 10) = prI c := by
  have e := isP_2 (c := c) (decide_eq_false (by omega)) (decide_eq_true ⟨h1, h2⟩)
  rw [prI_t e.1, e.2, show c - 97 + 10 = c - 87 by omega]
theorem prI_0 {c : Nat} (h1 : ¬ (48 ≤ c ∧ c ≤ 57)) (h2 : ¬ (97 ≤ c ∧ c ≤ 102)) : -1 = prI c := by
  unfold prI
  rw [if_neg (by rw [isP_0 (decide_eq_false h1) (decide_eq_false h2)]; decide)]
/-- a method of a library class that no native row stands for -/
theorem metF {l : Launch} {y : MethodName} {ws ws' : List Cond} {rm : Room} {Pc : Array Value → State → Prop} {Qc : Array Value → State → Outcome → State → Prop} {mc ms : Nat} {free : Addr → Prop} {cc : ByteArray} {maxL : Nat} {ret : Option FieldType} (hy : plainFor y = true) (hw : ws = Cond.code y cc maxL ret :: ws')
    (body : ∀ (p : Program) (e : Env) (s : State) (m : MethodId) (args : Array Value) (below : List Frame) (meth : Method) (c : Code) (s₁ : State), BodyLoose p l y (headSpec ws rm) cc maxL ret e s m args below meth c s₁ → c.maxLocals = maxL → Pc args s → W p l e (headSpec ws rm).room s m args below meth c s.heap [] 0 0 (MQ below Qc args s mc ms free) (entryFrame m args maxL)) : Met l y ws rm Pc Qc mc ms free := by
  refine MetFree.of_bodySF (code := cc) (maxLocals := maxL) (ret := ret) hy (fun args s m h hn => ?_) (fun p e s m args below meth c s₁ B hml hP _ => ?_)
  · obtain ⟨meth, c, h1, h2, h3, h4, h5, h6, -⟩ := Cond.code_spec hn (atoms_spec h (Cond.code y cc maxL ret) (by rw [hw]; exact List.mem_cons_self))
    exact ⟨meth, c, h1, h2, h3, h4, h5, h6⟩
  · have hh0 : s₁.heap = s.heap := by rw [B.state]; rfl
    obtain ⟨t, a1, o, b1, b2, b3⟩ := body p e s m args below meth c s₁ B hml hP s₁ hh0 (Stand.of_body B)
    exact ⟨t, o, a1, b1, b2, b3.1, b3.2⟩
theorem Ctr.intF {G : VC} {y : MethodName} {wy wy' : List Cond} {rm : Room} {av : List Value} {wc : va_W} {Post : Option Value → va_W → Prop} {maxL : Nat} {cc : ByteArray} {ret : Option FieldType} {lv0 : List (Option Value)} (hy : plainFor y = true) (hw : wy = Cond.code y cc maxL ret :: wy') (hn : lv0.length = maxL) (hlv : v_pairs 0 lv0 = lv_args 0 av) (hsl : (lg_sl av).length ≤ maxL) {ty : FieldType} (hret : ret = some ty)
    (body : ∀ (A : Nat → Prop) (X : VX), Ev G A X cc y.cls wy maxL → (∀ (u : va_W) (pc : Nat) (lv : List (Option Value)) (v : Int32), decode cc pc = .ok (.ireturn, 1) → narrow ty (.int v) = .int v → Post (some (.int v)) u → V G A X rm u rm.cells rm.slots pc lv [.int v]) → V G A X rm wc 0 0 0 lv0 []) : Ctr y wy rm G av wc Post := by
  intro l sz
  refine metF (cc := cc) (maxL := maxL) (ret := ret) hy hw ?_
  intro p e s m args below meth c s₁ B hml hv
  obtain ⟨rfl, hsz, hP, hK, hD0, hGl⟩ := hv
  subst hsz
  have hD := hD0.self (sz := s.heap.size)
  have hl := lv_entry av (n := maxL) hsl
  rw [lg_entry_eq]
  generalize (lg_sl av ++ List.replicate (maxL - (lg_sl av).length) Slot.unset).toArray = ls at hl ⊢
  let X : VX := (p, l, e, s, m, av.toArray, below, meth, c, MQ below (nQc G wc s.heap.size Post) av.toArray s rm.cells rm.slots (va_A wc s.heap.size))
  have E : Ev G (va_A wc s.heap.size) X cc y.cls wy maxL := ⟨B.exec, B.bytes, hml, findClass_of_methodNamed B.named, atoms_spec (ws := wy) B.pre, hK, fun q h => Or.inr h, hGl⟩
  have hb := body (va_A wc s.heap.size) X E (fun u pc lv v hdg hnw hpost H locs ls hPu hDu hS hls => W.zret E.1 E.2.1 (B.returns.trans hret) hnw
    (fun t ht hW2 => ⟨⟨some (.int v), u, rfl, hpost, by rw [ht]; exact hPu, hDu⟩, hS.F ht⟩) hS.2.2 hdg B.notSynchronized)
  exact hb s.heap [] ls hP hD va_S.rf ⟨by rw [hl.1, hn], hl.2.1, by rw [hlv]; exact hl.2.2⟩
abbrev rm_c_J9_floorMod_7cf53 : Room := { frames := 0, cells := 0, slots := 0, locals := 0 }
theorem hd_J9_floorMod_7cf53 : yJ9_floorMod_7cf53.cls ≠ "java/lang/invoke/MethodHandle" ∧ yJ9_floorMod_7cf53.cls ≠ "java/lang/invoke/VarHandle" ∧ (parseMethodDescriptor yJ9_floorMod_7cf53.desc).map (fun d => d.parameters.length) = some 2 := by decide +kernel
set_option maxRecDepth 100000 in
set_option maxHeartbeats 8000000 in
theorem c_J9_floorMod_7cf53 (G : VC) (a_ : Nat) (ha : a_ < 12) : Ctr yJ9_floorMod_7cf53 wsJ9_floorMod_7cf53 rm_c_J9_floorMod_7cf53 G [.int (nI (a_)), .int (nI (6))] (bl []) (fun v9_ u9_ => u9_ = (bl []) ∧ v9_ = some (.int (nI (a_ % 6)))) := by
  refine Ctr.intF (cc := cJ9_floorMod_7cf53) (maxL := 3) (ret := (some .int)) (lv0 := [some (.int (nI (a_))), some (.int (nI (6))), none]) (by decide +kernel) rfl rfl rfl (Nat.le_of_ble_eq_true rfl) rfl (fun A X E hend => ?_)
  refine V.iload_n E dJ9_floorMod_7cf53_0 rfl rfl ?_
  refine V.iload_n E dJ9_floorMod_7cf53_1 rfl rfl ?_
  refine V.iremN E (by omega) (by omega) (by omega) dJ9_floorMod_7cf53_2 ?_
  refine V.istore_n (lv' := [some (.int (nI (a_))), some (.int (nI (6))), some (.int (nI (a_ % 6)))]) E dJ9_floorMod_7cf53_3 rfl (Nat.le_of_ble_eq_true rfl) rfl rfl ?_
  refine V.iload_n E dJ9_floorMod_7cf53_4 rfl rfl ?_
  refine V.iload_n E dJ9_floorMod_7cf53_5 rfl rfl ?_
  refine V.ixor E dJ9_floorMod_7cf53_6 ?_
  refine V.top (y := nI (a_ ^^^ 6)) ((xor6 a_ ha).1) ?_
  refine V.if_geN (tgt := 18) E (Nat.lt_trans (xor6 a_ ha).2 (by decide)) dJ9_floorMod_7cf53_7 (by decide) ?_
  refine V.iload_n E dJ9_floorMod_7cf53_18 rfl rfl ?_
  exact hend _ _ _ _ dJ9_floorMod_7cf53_19 (nrI _) ⟨rfl, rfl⟩
abbrev rm_c_X1_partOf : Room := { frames := 0, cells := 0, slots := 0, locals := 0 }
theorem hd_X1_partOf : yX1_partOf.cls ≠ "java/lang/invoke/MethodHandle" ∧ yX1_partOf.cls ≠ "java/lang/invoke/VarHandle" ∧ (parseMethodDescriptor yX1_partOf.desc).map (fun d => d.parameters.length) = some 1 := by decide +kernel
set_option maxRecDepth 100000 in
set_option maxHeartbeats 8000000 in
theorem c_X1_partOf (G : VC) (c : Nat) (hc : c < 256) : Ctr yX1_partOf wsX1_partOf rm_c_X1_partOf G [.int (nI (c))] (bl []) (fun v9_ u9_ => u9_ = (bl []) ∧ v9_ = some (.int (prI c))) := by
  refine Ctr.int (cc := cX1_partOf) (maxL := 1) (ret := (some .int)) (lv0 := [some (.int (nI (c)))]) (by decide) rfl rfl rfl (Nat.le_of_ble_eq_true rfl) rfl (fun A X E hend => ?_)
  refine V.iload_n E dX1_partOf_0 rfl rfl ?_
  refine V.bipush (v := nI (48)) E dX1_partOf_1 (by decide) ?_
  refine V.icmp_ltN (tgt := 17) E (by omega) (by omega) dX1_partOf_3 (by decide) (fun q_3 => ?_) (fun q_3 => ?_)
  · refine V.iload_n E dX1_partOf_17 rfl rfl ?_
    refine V.bipush (v := nI (97)) E dX1_partOf_18 (by decide) ?_
    refine V.icmp_ltN (tgt := 39) E (by omega) (by omega) dX1_partOf_20 (by decide) (fun q_20 => ?_) (fun q_20 => ?_)
    · refine V.iconst (v := (-1 : Int32)) E dX1_partOf_39 (by decide) ?_
      refine V.top (y := prI c) (by first | exact prI_1 (by omega) (by omega) | exact prI_2 (by omega) (by omega) | exact prI_0 (by omega) (by omega)) ?_
      exact hend _ _ _ _ dX1_partOf_40 (nrI _) ⟨rfl, rfl⟩
    · refine V.iload_n E dX1_partOf_23 rfl rfl ?_
      refine V.bipush (v := nI (102)) E dX1_partOf_24 (by decide) ?_
      refine V.icmp_gtN (tgt := 39) E (by omega) (by omega) dX1_partOf_26 (by decide) (fun q_26 => ?_) (fun q_26 => ?_)
      · refine V.iconst (v := (-1 : Int32)) E dX1_partOf_39 (by decide) ?_
        refine V.top (y := prI c) (by first | exact prI_1 (by omega) (by omega) | exact prI_2 (by omega) (by omega) | exact prI_0 (by omega) (by omega)) ?_
        exact hend _ _ _ _ dX1_partOf_40 (nrI _) ⟨rfl, rfl⟩
      · refine V.iload_n E dX1_partOf_29 rfl rfl ?_
        refine V.bipush (v := nI (97)) E dX1_partOf_30 (by decide) ?_
        refine V.isubN E (by omega) dX1_partOf_32 ?_
        refine V.bipush (v := nI (10)) E dX1_partOf_33 (by decide) ?_
        refine V.iaddN E  dX1_partOf_35 ?_
        refine V.goto (tgt := 40) E dX1_partOf_36 (by decide) ?_
        refine V.top (y := prI c) (by first | exact prI_1 (by omega) (by omega) | exact prI_2 (by omega) (by omega) | exact prI_0 (by omega) (by omega)) ?_
        exact hend _ _ _ _ dX1_partOf_40 (nrI _) ⟨rfl, rfl⟩
  · refine V.iload_n E dX1_partOf_6 rfl rfl ?_
    refine V.bipush (v := nI (57)) E dX1_partOf_7 (by decide) ?_
    refine V.icmp_gtN (tgt := 17) E (by omega) (by omega) dX1_partOf_9 (by decide) (fun q_9 => ?_) (fun q_9 => ?_)
    · refine V.iload_n E dX1_partOf_17 rfl rfl ?_
      refine V.bipush (v := nI (97)) E dX1_partOf_18 (by decide) ?_
      refine V.icmp_ltN (tgt := 39) E (by omega) (by omega) dX1_partOf_20 (by decide) (fun q_20 => ?_) (fun q_20 => ?_)
      · refine V.iconst (v := (-1 : Int32)) E dX1_partOf_39 (by decide) ?_
        refine V.top (y := prI c) (by first | exact prI_1 (by omega) (by omega) | exact prI_2 (by omega) (by omega) | exact prI_0 (by omega) (by omega)) ?_
        exact hend _ _ _ _ dX1_partOf_40 (nrI _) ⟨rfl, rfl⟩
      · refine V.iload_n E dX1_partOf_23 rfl rfl ?_
        refine V.bipush (v := nI (102)) E dX1_partOf_24 (by decide) ?_
        refine V.icmp_gtN (tgt := 39) E (by omega) (by omega) dX1_partOf_26 (by decide) (fun q_26 => ?_) (fun q_26 => ?_)
        · refine V.iconst (v := (-1 : Int32)) E dX1_partOf_39 (by decide) ?_
          refine V.top (y := prI c) (by first | exact prI_1 (by omega) (by omega) | exact prI_2 (by omega) (by omega) | exact prI_0 (by omega) (by omega)) ?_
          exact hend _ _ _ _ dX1_partOf_40 (nrI _) ⟨rfl, rfl⟩
        · refine V.iload_n E dX1_partOf_29 rfl rfl ?_
          refine V.bipush (v := nI (97)) E dX1_partOf_30 (by decide) ?_
          refine V.isubN E (by omega) dX1_partOf_32 ?_
          refine V.bipush (v := nI (10)) E dX1_partOf_33 (by decide) ?_
          refine V.iaddN E  dX1_partOf_35 ?_
          refine V.goto (tgt := 40) E dX1_partOf_36 (by decide) ?_
          refine V.top (y := prI c) (by first | exact prI_1 (by omega) (by omega) | exact prI_2 (by omega) (by omega) | exact prI_0 (by omega) (by omega)) ?_
          exact hend _ _ _ _ dX1_partOf_40 (nrI _) ⟨rfl, rfl⟩
    · refine V.iload_n E dX1_partOf_12 rfl rfl ?_
      refine V.bipush (v := nI (48)) E dX1_partOf_13 (by decide) ?_
      refine V.isubN E (by omega) dX1_partOf_15 ?_
      refine V.top (y := prI c) (by first | exact prI_1 (by omega) (by omega) | exact prI_2 (by omega) (by omega) | exact prI_0 (by omega) (by omega)) ?_
      exact hend _ _ _ _ dX1_partOf_16 (nrI _) ⟨rfl, rfl⟩
abbrev rm_c_X1_firstFault : Room := { frames := 1, cells := 0, slots := 0, locals := 20 }
theorem hd_X1_firstFault : yX1_firstFault.cls ≠ "java/lang/invoke/MethodHandle" ∧ yX1_firstFault.cls ≠ "java/lang/invoke/VarHandle" ∧ (parseMethodDescriptor yX1_firstFault.desc).map (fun d => d.parameters.length) = some 0 := by decide +kernel
set_option maxRecDepth 100000 in
set_option maxHeartbeats 8000000 in
theorem c_X1_firstFault (G : VC) (p : Nat → Nat) (tx : Nat → Nat) (tl : Nat) (ht : TI tl tx) : Ctr yX1_firstFault wsX1_firstFault rm_c_X1_firstFault G [.ref (p 0)] (bl [pdW G p tx tl]) (fun v9_ u9_ => u9_ = (bl [pdW G p tx tl]) ∧ v9_ = some (.int (fau tl tx))) := by
  refine Ctr.int (cc := cX1_firstFault) (maxL := 4) (ret := (some .int)) (lv0 := [some (.ref (p 0)), none, none, none]) (by decide) rfl rfl rfl (Nat.le_of_ble_eq_true rfl) rfl (fun A X E hend => ?_)
  refine V.iconst (v := nI (0)) E dX1_firstFault_0 (by decide) ?_
  refine V.istore_n (lv' := [some (.ref (p 0)), some (.int (nI (0))), none, none]) E dX1_firstFault_1 rfl (Nat.le_of_ble_eq_true rfl) rfl rfl ?_
  refine V.iconst (v := nI (0)) E dX1_firstFault_2 (by decide) ?_
  refine V.istore_n (lv' := [some (.ref (p 0)), some (.int (nI (0))), some (.int (nI (0))), none]) E dX1_firstFault_3 rfl (Nat.le_of_ble_eq_true rfl) rfl rfl ?_
  refine V.iconst (v := nI (0)) E dX1_firstFault_4 (by decide) ?_
  refine V.istore_n (lv' := [some (.ref (p 0)), some (.int (nI (0))), some (.int (nI (0))), some (.int (nI (0)))]) E dX1_firstFault_5 rfl (Nat.le_of_ble_eq_true rfl) rfl rfl ?_
  refine V.locN (b := ((0, 0)).1) (lv' := [some (.ref (p 0)), some (.int (nI (((0, 0)).1))), some (.int (nI (0))), some (.int (nI (0)))]) 1 (rfl) rfl rfl ?_
  refine V.locN (b := ((0, 0)).2) (lv' := [some (.ref (p 0)), some (.int (nI (((0, 0)).1))), some (.int (nI (((0, 0)).2))), some (.int (nI (0)))]) 2 (rfl) rfl rfl ?_
  refine loopN (P := fun i6 => ∀ gg : Nat × Nat, (fau tl tx = ff tl tx (tl - i6) i6 gg.1 gg.2 ∧ gg.1 ≤ 8 ∧ gg.2 ≤ 2) → V G A X rm_c_X1_firstFault (bl [pdW G p tx tl]) 0 0 6 [some (.ref (p 0)), some (.int (nI (gg.1))), some (.int (nI (gg.2))), some (.int (nI (i6)))] []) tl (fun i6 hi_6 ih_6 gg hg_6 => ?_) 0 (Nat.zero_le _) ((0, 0)) (⟨rfl, by decide, by decide⟩)
  refine V.iload_n E dX1_firstFault_6 rfl rfl ?_
  refine V.aload_n E dX1_firstFault_7 rfl rfl ?_
  refine V.getf (C := RX1) (T := TX1) (N := 2) (ref := "GlassSpill$Pad") E 0 1 1 (by decide +kernel) rfl rfl (by decide) (by decide +kernel) rfl rfl dX1_firstFault_8 ?_
  refine V.icmp_geN (tgt := 90) E (by have := ht.1; omega) (by have := ht.1; omega) dX1_firstFault_11 (by decide) (fun q_11 => ?_) (fun q_11 => ?_)
  · obtain rfl : tl = i6 := by omega
    refine V.iload_n E dX1_firstFault_90 rfl rfl ?_
    refine V.if_eqN (tgt := 98) E (by omega) dX1_firstFault_91 (by decide) (fun q_91 => ?_) (fun q_91 => ?_)
    · refine V.aload_n E dX1_firstFault_98 rfl rfl ?_
      refine V.getf (C := RX1) (T := TX1) (N := 2) (ref := "GlassSpill$Pad") E 0 1 1 (by decide +kernel) rfl rfl (by decide) (by decide +kernel) rfl rfl dX1_firstFault_99 ?_
      refine V.goto (tgt := 107) E dX1_firstFault_102 (by decide) ?_
      refine V.top (y := fau tl tx) ((hg_6.1.trans (by rw [ff_e (by omega), if_pos (by omega)])).symm) ?_
      exact hend _ _ _ _ dX1_firstFault_107 (nrI _) ⟨rfl, rfl⟩
    · refine V.iload_n E dX1_firstFault_94 rfl rfl ?_
      refine V.if_leN (tgt := 105) E (by omega) dX1_firstFault_95 (by decide) (fun q_95 => ?_) (fun q_95 => ?_)
      · refine V.bipush (v := (-6 : Int32)) E dX1_firstFault_105 (by decide) ?_
        refine V.top (y := fau tl tx) ((hg_6.1.trans (by rw [ff_e (by omega), if_neg (by omega)])).symm) ?_
        exact hend _ _ _ _ dX1_firstFault_107 (nrI _) ⟨rfl, rfl⟩
      · refine V.aload_n E dX1_firstFault_98 rfl rfl ?_
        refine V.getf (C := RX1) (T := TX1) (N := 2) (ref := "GlassSpill$Pad") E 0 1 1 (by decide +kernel) rfl rfl (by decide) (by decide +kernel) rfl rfl dX1_firstFault_99 ?_
        refine V.goto (tgt := 107) E dX1_firstFault_102 (by decide) ?_
        refine V.top (y := fau tl tx) ((hg_6.1.trans (by rw [ff_e (by omega), if_pos (by omega)])).symm) ?_
        exact hend _ _ _ _ dX1_firstFault_107 (nrI _) ⟨rfl, rfl⟩
  · refine V.iload_n E dX1_firstFault_14 rfl rfl ?_
    refine V.bipush (v := nI (48)) E dX1_firstFault_15 (by decide) ?_
    refine V.icmp_geN (tgt := 90) E (by have := ht.1; omega) (by decide) dX1_firstFault_17 (by decide) (fun q_17 => ?_) (fun q_17 => ?_)
    · exact absurd q_17 (by have := ht.1; omega)
    · refine V.iload_n E dX1_firstFault_20 rfl rfl ?_
      refine V.bipush (v := nI (8)) E dX1_firstFault_21 (by decide) ?_
      refine V.icmp_neN (tgt := 28) E (by omega) (by decide) dX1_firstFault_23 (by decide) (fun q_23 => ?_) (fun q_23 => ?_)
      · refine V.aload_n E dX1_firstFault_28 rfl rfl ?_
        refine V.getf (C := RX1) (T := TX1) (N := 2) (ref := "GlassSpill$Pad") E 0 1 0 (by decide +kernel) rfl rfl (by decide) (by decide +kernel) rfl rfl dX1_firstFault_29 ?_
        refine V.iload_n E dX1_firstFault_32 rfl rfl ?_
        refine V.ialdN (v := nI (tx i6)) E 1 rfl (by have := ht.1; omega) (by decide) (rfl) dX1_firstFault_33 ?_
        refine V.callS E (c_X1_partOf G (tx i6) (ht.2 i6 (by have := ht.1; omega))) (bl [pdW G p tx tl]) [] gX1_firstFault_X1_partOf rfl hd_X1_partOf ⟨⟨Nat.le_of_ble_eq_true rfl, Nat.le_of_ble_eq_true rfl⟩, Nat.le_of_ble_eq_true rfl, Nat.le_of_ble_eq_true rfl⟩ rfl (Nat.le_of_ble_eq_true rfl) rfl dX1_firstFault_34 (List.Perm.refl _) (kc' := 0) (ks' := 0) rfl rfl (rwI (ws' := (bl [pdW G p tx tl])) (List.Perm.refl _) ?_)
        refine V.if_lt (tgt := 46) E dX1_firstFault_37 (by decide) (fun q_37 => ?_) (fun q_37 => ?_)
        · refine V.aload_n E dX1_firstFault_46 rfl rfl ?_
          refine V.getf (C := RX1) (T := TX1) (N := 2) (ref := "GlassSpill$Pad") E 0 1 0 (by decide +kernel) rfl rfl (by decide) (by decide +kernel) rfl rfl dX1_firstFault_47 ?_
          refine V.iload_n E dX1_firstFault_50 rfl rfl ?_
          refine V.ialdN (v := nI (tx i6)) E 1 rfl (by omega) (by decide) (rfl) dX1_firstFault_51 ?_
          refine V.bipush (v := nI (46)) E dX1_firstFault_52 (by decide) ?_
          refine V.icmp_neN (tgt := 61) E (Nat.lt_trans (ht.2 i6 (by have := ht.1; omega)) (by decide)) (by decide) dX1_firstFault_54 (by decide) (fun q_54 => ?_) (fun q_54 => ?_)
          · refine V.iload_n E dX1_firstFault_61 rfl rfl ?_
            refine V.top (y := fau tl tx) ((hg_6.1.trans (by rw [ff_s (by omega), if_neg q_23, if_neg (by rw [prI_lt q_37]; decide), if_neg (by omega)])).symm) ?_
            exact hend _ _ _ _ dX1_firstFault_62 (nrI _) ⟨rfl, rfl⟩
          · refine V.iload_n E dX1_firstFault_57 rfl rfl ?_
            refine V.if_leN (tgt := 63) E (by omega) dX1_firstFault_58 (by decide) (fun q_58 => ?_) (fun q_58 => ?_)
            · refine V.iload_n E dX1_firstFault_63 rfl rfl ?_
              refine V.iconst (v := nI (3)) E dX1_firstFault_64 (by decide) ?_
              refine V.icmp_eqN (tgt := 79) E (by omega) (by decide) dX1_firstFault_65 (by decide) (fun q_65 => ?_) (fun q_65 => ?_)
              · omega
              · refine V.aload_n E dX1_firstFault_68 rfl rfl ?_
                refine V.getf (C := RX1) (T := TX1) (N := 2) (ref := "GlassSpill$Pad") E 0 1 0 (by decide +kernel) rfl rfl (by decide) (by decide +kernel) rfl rfl dX1_firstFault_69 ?_
                refine V.iload_n E dX1_firstFault_72 rfl rfl ?_
                refine V.ialdN (v := nI (tx i6)) E 1 rfl (by omega) (by decide) (rfl) dX1_firstFault_73 ?_
                refine V.bipush (v := nI (46)) E dX1_firstFault_74 (by decide) ?_
                refine V.icmp_neN (tgt := 84) E (Nat.lt_trans (ht.2 i6 (by have := ht.1; omega)) (by decide)) (by decide) dX1_firstFault_76 (by decide) (fun q_76 => ?_) (fun q_76 => ?_)
                · exact absurd q_54 q_76
                · refine V.iconst (v := nI (0)) E dX1_firstFault_79 (by decide) ?_
                  refine V.istore_n (lv' := [some (.ref (p 0)), some (.int (nI (gg.1))), some (.int (nI (0))), some (.int (nI (i6)))]) E dX1_firstFault_80 rfl (Nat.le_of_ble_eq_true rfl) rfl rfl ?_
                  refine V.iincN (lv' := [some (.ref (p 0)), some (.int (nI (gg.1 + 1))), some (.int (nI (0))), some (.int (nI (i6)))]) E dX1_firstFault_81 rfl (Nat.le_of_ble_eq_true rfl) rfl rfl ?_
                  refine V.iincN (lv' := [some (.ref (p 0)), some (.int (nI (gg.1 + 1))), some (.int (nI (0))), some (.int (nI (i6 + 1)))]) E dX1_firstFault_84 rfl (Nat.le_of_ble_eq_true rfl) rfl rfl ?_
                  refine V.goto (tgt := 6) E dX1_firstFault_87 (by decide) ?_
                  refine V.locN (b := ((gg.1 + 1, 0)).1) (lv' := [some (.ref (p 0)), some (.int (nI (((gg.1 + 1, 0)).1))), some (.int (nI (0))), some (.int (nI (i6 + 1)))]) 1 (rfl) rfl rfl ?_
                  refine V.locN (b := ((gg.1 + 1, 0)).2) (lv' := [some (.ref (p 0)), some (.int (nI (((gg.1 + 1, 0)).1))), some (.int (nI (((gg.1 + 1, 0)).2))), some (.int (nI (i6 + 1)))]) 2 (rfl) rfl rfl ?_
                  exact ih_6 (by omega) ((gg.1 + 1, 0)) (⟨hg_6.1.trans (by rw [ff_s (by omega), if_neg q_23, if_neg (by rw [prI_lt q_37]; decide), if_pos ⟨q_54, by omega⟩]), (by show gg.1 + 1 ≤ 8; omega), (by decide : 0 ≤ 2)⟩)
            · refine V.iload_n E dX1_firstFault_61 rfl rfl ?_
              refine V.top (y := fau tl tx) ((hg_6.1.trans (by rw [ff_s (by omega), if_neg q_23, if_neg (by rw [prI_lt q_37]; decide), if_neg (by omega)])).symm) ?_
              exact hend _ _ _ _ dX1_firstFault_62 (nrI _) ⟨rfl, rfl⟩
        · refine V.iincN (lv' := [some (.ref (p 0)), some (.int (nI (gg.1))), some (.int (nI (gg.2 + 1))), some (.int (nI (i6)))]) E dX1_firstFault_40 rfl (Nat.le_of_ble_eq_true rfl) rfl rfl ?_
          refine V.goto (tgt := 63) E dX1_firstFault_43 (by decide) ?_
          refine V.iload_n E dX1_firstFault_63 rfl rfl ?_
          refine V.iconst (v := nI (3)) E dX1_firstFault_64 (by decide) ?_
          refine V.icmp_eqN (tgt := 79) E (by omega) (by decide) dX1_firstFault_65 (by decide) (fun q_65 => ?_) (fun q_65 => ?_)
          · refine V.iconst (v := nI (0)) E dX1_firstFault_79 (by decide) ?_
            refine V.istore_n (lv' := [some (.ref (p 0)), some (.int (nI (gg.1))), some (.int (nI (0))), some (.int (nI (i6)))]) E dX1_firstFault_80 rfl (Nat.le_of_ble_eq_true rfl) rfl rfl ?_
            refine V.iincN (lv' := [some (.ref (p 0)), some (.int (nI (gg.1 + 1))), some (.int (nI (0))), some (.int (nI (i6)))]) E dX1_firstFault_81 rfl (Nat.le_of_ble_eq_true rfl) rfl rfl ?_
            refine V.iincN (lv' := [some (.ref (p 0)), some (.int (nI (gg.1 + 1))), some (.int (nI (0))), some (.int (nI (i6 + 1)))]) E dX1_firstFault_84 rfl (Nat.le_of_ble_eq_true rfl) rfl rfl ?_
            refine V.goto (tgt := 6) E dX1_firstFault_87 (by decide) ?_
            refine V.locN (b := ((gg.1 + 1, 0)).1) (lv' := [some (.ref (p 0)), some (.int (nI (((gg.1 + 1, 0)).1))), some (.int (nI (0))), some (.int (nI (i6 + 1)))]) 1 (rfl) rfl rfl ?_
            refine V.locN (b := ((gg.1 + 1, 0)).2) (lv' := [some (.ref (p 0)), some (.int (nI (((gg.1 + 1, 0)).1))), some (.int (nI (((gg.1 + 1, 0)).2))), some (.int (nI (i6 + 1)))]) 2 (rfl) rfl rfl ?_
            exact ih_6 (by omega) ((gg.1 + 1, 0)) (⟨hg_6.1.trans (by rw [ff_s (by omega), if_neg q_23, if_pos (prI_ge q_37), if_pos (by omega)]), (by show gg.1 + 1 ≤ 8; omega), (by decide : 0 ≤ 2)⟩)
          · refine V.aload_n E dX1_firstFault_68 rfl rfl ?_
            refine V.getf (C := RX1) (T := TX1) (N := 2) (ref := "GlassSpill$Pad") E 0 1 0 (by decide +kernel) rfl rfl (by decide) (by decide +kernel) rfl rfl dX1_firstFault_69 ?_
            refine V.iload_n E dX1_firstFault_72 rfl rfl ?_
            refine V.ialdN (v := nI (tx i6)) E 1 rfl (by omega) (by decide) (rfl) dX1_firstFault_73 ?_
            refine V.bipush (v := nI (46)) E dX1_firstFault_74 (by decide) ?_
            refine V.icmp_neN (tgt := 84) E (Nat.lt_trans (ht.2 i6 (by have := ht.1; omega)) (by decide)) (by decide) dX1_firstFault_76 (by decide) (fun q_76 => ?_) (fun q_76 => ?_)
            · refine V.iincN (lv' := [some (.ref (p 0)), some (.int (nI (gg.1))), some (.int (nI (gg.2 + 1))), some (.int (nI (i6 + 1)))]) E dX1_firstFault_84 rfl (Nat.le_of_ble_eq_true rfl) rfl rfl ?_
              refine V.goto (tgt := 6) E dX1_firstFault_87 (by decide) ?_
              refine V.locN (b := ((gg.1, gg.2 + 1)).1) (lv' := [some (.ref (p 0)), some (.int (nI (((gg.1, gg.2 + 1)).1))), some (.int (nI (gg.2 + 1))), some (.int (nI (i6 + 1)))]) 1 (rfl) rfl rfl ?_
              refine V.locN (b := ((gg.1, gg.2 + 1)).2) (lv' := [some (.ref (p 0)), some (.int (nI (((gg.1, gg.2 + 1)).1))), some (.int (nI (((gg.1, gg.2 + 1)).2))), some (.int (nI (i6 + 1)))]) 2 (rfl) rfl rfl ?_
              exact ih_6 (by omega) ((gg.1, gg.2 + 1)) (⟨hg_6.1.trans (by rw [ff_s (by omega), if_neg q_23, if_pos (prI_ge q_37), if_neg (by omega)]), hg_6.2.1, (by show gg.2 + 1 ≤ 2; omega)⟩)
            · exact absurd ((show isP (tx i6) = false by rw [q_76]; decide).symm.trans (prI_ge q_37)) (by decide)
      · refine V.iload_n E dX1_firstFault_26 rfl rfl ?_
        refine V.top (y := fau tl tx) ((hg_6.1.trans (by rw [ff_s (by omega), if_pos q_23])).symm) ?_
        exact hend _ _ _ _ dX1_firstFault_27 (nrI _) ⟨rfl, rfl⟩
def dn (n i : Nat) : Int32 := nI (n - i) + -1
theorem dn_e {n i : Nat} (h : i < n) : dn n i = nI (n - 1 - i) := by
  unfold dn
  rw [m1N (by omega), show n - i - 1 = n - 1 - i by omega]
theorem dn_s {n i : Nat} : nI (n - 1 - i) + (-1) = dn n (i + 1) := by
  unfold dn
  rw [show n - 1 - i = n - (i + 1) by omega]
theorem dn_lt {n i : Nat} (h : i ≤ n) (hn : n < 2 ^ 31) (hd : dn n i < 0) : i = n := by
  rcases Nat.lt_or_ge i n with c | c
  · rw [dn_e c, i_lt, nI_toInt (by omega), i_0] at hd
    omega
  · omega
theorem dn_ge {n i : Nat} (h : i ≤ n) (hd : ¬ dn n i < 0) : i < n := by
  rcases Nat.lt_or_ge i n with c | c
  · exact c
  · exact absurd (by unfold dn; rw [show n - i = 0 by omega]; decide) hd
abbrev rm_c_X1_append : Room := { frames := 0, cells := 0, slots := 0, locals := 0 }
theorem hd_X1_append : yX1_append.cls ≠ "java/lang/invoke/MethodHandle" ∧ yX1_append.cls ≠ "java/lang/invoke/VarHandle" ∧ (parseMethodDescriptor yX1_append.desc).map (fun d => d.parameters.length) = some 2 := by decide +kernel
set_option maxRecDepth 100000 in
set_option maxHeartbeats 8000000 in
theorem c_X1_append (G : VC) (p : Nat → Nat) (tx : Nat → Nat) (tl : Nat) (u_ : Nat) (hu : u_ < 2 ^ 64) (hb : chN u_ ≠ 0) (hm : tl + chN u_ ≤ 48) : Ctr yX1_append wsX1_append rm_c_X1_append G [.ref (p 0), .long (lN u_), .int (nI (chN u_))] (bl [pdW G p tx tl]) (fun v9_ u9_ => u9_ = (bl [pdW G p (ins tl (chN u_) (putF u_) tx) (tl + chN u_)]) ∧ v9_ = none) := by
  refine Ctr.void (cc := cX1_append) (maxL := 5) (lv0 := [some (.ref (p 0)), some (.long (lN u_)), none, some (.int (nI (chN u_))), none]) (by decide) rfl rfl rfl (Nat.le_of_ble_eq_true rfl) (fun A X E hinit hend => ?_)
  refine V.iload_n E dX1_append_0 rfl rfl ?_
  refine V.iconst (v := nI (1)) E dX1_append_1 (by decide) ?_
  refine V.isubN E (by omega) dX1_append_2 ?_
  refine V.istore (lv' := [some (.ref (p 0)), some (.long (lN u_)), none, some (.int (nI (chN u_))), some (.int (nI ((chN u_) - 1)))]) E dX1_append_3 (Nat.le_of_ble_eq_true rfl) rfl rfl ?_
  refine V.loc (y := dn (chN u_) 0) (lv' := [some (.ref (p 0)), some (.long (lN u_)), none, some (.int (nI (chN u_))), some (.int (dn (chN u_) 0))]) 4 ((dn_e (by omega)).symm) rfl rfl ?_
  refine V.arr (f' := nA (ins tl 0 (putF u_) tx)) (ws' := (bl [pdW G p (ins tl 0 (putF u_) tx) tl])) 1 rfl (fun j _ => ins_0 j) rfl ?_
  refine V.drop (lv' := [some (.ref (p 0)), some (.long (lN u_)), none, none, some (.int (dn (chN u_) 0))]) [true, true, true, false, true] rfl ?_
  show V G A X rm_c_X1_append (bl [pdW G p (ins tl 0 (putF u_) tx) (tl + 0)]) 0 0 5 [some (.ref (p 0)), some (.long (lN u_)), none, none, some (.int (dn (chN u_) 0))] []
  refine loopM (P := fun i_ : Nat => (i_ ≤ chN u_) → V G A X rm_c_X1_append (bl [pdW G p (ins tl i_ (putF u_) tx) (tl + i_)]) 0 0 5 [some (.ref (p 0)), some (.long (lN u_)), none, none, some (.int (dn (chN u_) i_))] []) (fun i_ => chN u_ - i_) (fun i_ ih_5 hg_5 => ?_) 0 (Nat.zero_le _)
  refine V.iload E dX1_append_5 rfl ?_
  refine V.if_lt (tgt := 56) E dX1_append_7 (by decide) (fun q_7 => ?_) (fun q_7 => ?_)
  · obtain rfl : i_ = chN u_ := dn_lt hg_5 (Nat.lt_of_le_of_lt (chN_le u_) (by decide)) q_7
    exact hend _ _ _ dX1_append_56 ⟨rfl, rfl⟩
  · have hi_ := dn_ge hg_5 q_7
    refine V.loc (y := nI (chN u_ - 1 - i_)) (lv' := [some (.ref (p 0)), some (.long (lN u_)), none, none, some (.int (nI (chN u_ - 1 - i_)))]) 4 (dn_e hi_) rfl rfl ?_
    refine V.aload_n E dX1_append_10 rfl rfl ?_
    refine V.getf (C := RX1) (T := TX1) (N := 2) (ref := "GlassSpill$Pad") E 0 1 1 (by decide +kernel) rfl rfl (by decide) (by decide +kernel) rfl rfl dX1_append_11 ?_
    refine V.bipush (v := nI (48)) E dX1_append_14 (by decide) ?_
    refine V.icmp_geN (tgt := 56) E (by omega) (by decide) dX1_append_16 (by decide) (fun q_16 => ?_) (fun q_16 => ?_)
    · exact absurd q_16 (by omega)
    · refine V.aload_n E dX1_append_19 rfl rfl ?_
      refine V.getf (C := RX1) (T := TX1) (N := 2) (ref := "GlassSpill$Pad") E 0 1 0 (by decide +kernel) rfl rfl (by decide) (by decide +kernel) rfl rfl dX1_append_20 ?_
      refine V.aload_n E dX1_append_23 rfl rfl ?_
      refine V.getf (C := RX1) (T := TX1) (N := 2) (ref := "GlassSpill$Pad") E 0 1 1 (by decide +kernel) rfl rfl (by decide) (by decide +kernel) rfl rfl dX1_append_24 ?_
      refine V.lload_n E dX1_append_27 rfl rfl ?_
      refine V.bipush (v := nI (8)) E dX1_append_28 (by decide) ?_
      refine V.iload E dX1_append_30 rfl ?_
      refine V.imulN E  dX1_append_32 ?_
      refine V.lushr (v := lN (u_ / 2 ^ (8 * (chN u_ - 1 - i_)))) E dX1_append_33 (ln_ushr hu (by have := chN_le u_; omega)) ?_
      refine V.ldc2 (v := 255) E (by decide +kernel) dX1_append_34 ?_
      refine V.land E dX1_append_37 ?_
      refine V.topl (y := lN (u_ / 2 ^ (8 * (chN u_ - 1 - i_)) % 256)) (ln_land _) ?_
      refine V.l2i E dX1_append_38 rfl ?_
      refine V.top (y := nI (putF u_ i_)) ((lN_i _).trans (congrArg nI (putF_e u_ i_))) ?_
      refine V.iastN (f' := nA (ins tl (i_ + 1) (putF u_) tx)) (ws' := (bl [pdW G p (ins tl (i_ + 1) (putF u_) tx) (tl + i_)])) E 1 rfl (by omega) (by decide) dX1_append_39 (fun j _ => ins_u j) rfl ?_
      refine V.aload_n E dX1_append_40 rfl rfl ?_
      refine V.dup E dX1_append_41 rfl ?_
      refine V.getf (C := RX1) (T := TX1) (N := 2) (ref := "GlassSpill$Pad") E 0 1 1 (by decide +kernel) rfl rfl (by decide) (by decide +kernel) rfl rfl dX1_append_42 ?_
      refine V.iconst (v := nI (1)) E dX1_append_45 (by decide) ?_
      refine V.iaddN E  dX1_append_46 ?_
      refine V.putf (C := RX1) (T := TX1) (N := 2) (ref := "GlassSpill$Pad") (ws' := (bl [pdW G p (ins tl (i_ + 1) (putF u_) tx) ((tl + i_) + 1)])) E 0 1 1 (by decide +kernel) tyX1_ok nmX1 rfl rfl (by decide) (by decide +kernel) rfl rfl rfl rfl (Nat.le_of_ble_eq_true rfl) dX1_append_47 rfl ?_
      refine V.iinc (v := nI (chN u_ - 1 - i_) + (-1 : Int32)) (lv' := [some (.ref (p 0)), some (.long (lN u_)), none, none, some (.int (nI (chN u_ - 1 - i_) + (-1 : Int32)))]) E dX1_append_50 rfl rfl (Nat.le_of_ble_eq_true rfl) rfl rfl ?_
      refine V.loc (y := dn (chN u_) (i_ + 1)) (lv' := [some (.ref (p 0)), some (.long (lN u_)), none, none, some (.int (dn (chN u_) (i_ + 1)))]) 4 (dn_s) rfl rfl ?_
      refine V.goto (tgt := 5) E dX1_append_53 (by decide) ?_
      show V G A X rm_c_X1_append (bl [pdW G p (ins tl (i_ + 1) (putF u_) tx) (tl + (i_ + 1))]) 0 0 5 [some (.ref (p 0)), some (.long (lN u_)), none, none, some (.int (dn (chN u_) (i_ + 1)))] []
      exact ih_5 (i_ + 1) (by omega) (hi_)
abbrev rm_c_X4_charactersIn : Room := { frames := 0, cells := 0, slots := 0, locals := 0 }
theorem hd_X4_charactersIn : yX4_charactersIn.cls ≠ "java/lang/invoke/MethodHandle" ∧ yX4_charactersIn.cls ≠ "java/lang/invoke/VarHandle" ∧ (parseMethodDescriptor yX4_charactersIn.desc).map (fun d => d.parameters.length) = some 1 := by decide +kernel
set_option maxRecDepth 100000 in
set_option maxHeartbeats 8000000 in
theorem c_X4_charactersIn (G : VC) (u_ : Nat) (hu : u_ < 2 ^ 64) : Ctr yX4_charactersIn wsX4_charactersIn rm_c_X4_charactersIn G [.long (lN u_)] (bl []) (fun v9_ u9_ => u9_ = (bl []) ∧ v9_ = some (.int (nI (chN u_)))) := by
  refine Ctr.int (cc := cX4_charactersIn) (maxL := 7) (ret := (some .int)) (lv0 := [some (.long (lN u_)), none, none, none, none, none, none]) (by decide) rfl rfl rfl (Nat.le_of_ble_eq_true rfl) rfl (fun A X E hend => ?_)
  refine V.lload_n E dX4_charactersIn_0 rfl rfl ?_
  refine V.lstore_n (lv' := [some (.long (lN u_)), none, some (.long (lN u_)), none, none, none, none]) E dX4_charactersIn_1 rfl (Nat.le_of_ble_eq_true rfl) rfl rfl ?_
  refine V.iconst (v := nI (0)) E dX4_charactersIn_2 (by decide) ?_
  refine V.istore (lv' := [some (.long (lN u_)), none, some (.long (lN u_)), none, some (.int (nI (0))), none, none]) E dX4_charactersIn_3 (Nat.le_of_ble_eq_true rfl) rfl rfl ?_
  refine V.iconst (v := nI (0)) E dX4_charactersIn_5 (by decide) ?_
  refine V.istore (lv' := [some (.long (lN u_)), none, some (.long (lN u_)), none, some (.int (nI (0))), some (.int (nI (0))), none]) E dX4_charactersIn_6 (Nat.le_of_ble_eq_true rfl) rfl rfl ?_
  refine V.drop (lv' := [none, none, some (.long (lN u_)), none, some (.int (nI (0))), some (.int (nI (0))), none]) [false, true, true, true, true, true, true] rfl ?_
  refine V.locl (y := lN (u_ / 256 ^ 0)) (lv' := [none, none, some (.long (lN (u_ / 256 ^ 0))), none, some (.int (nI (0))), some (.int (nI (0))), none]) 2 (by rw [Nat.pow_zero, Nat.div_one]) rfl rfl ?_
  refine loopN (P := fun i8 => ∀ zz : Unit, (chN u_ = chS u_ (8 - i8) i8) → V G A X rm_c_X4_charactersIn (bl []) 0 0 8 [none, none, some (.long (lN (u_ / 256 ^ i8))), none, some (.int (nI (i8))), some (.int (nI (i8))), none] []) 8 (fun i8 hi_8 ih_8 zz hg_8 => ?_) 0 (Nat.zero_le _) (()) (rfl)
  refine V.iload E dX4_charactersIn_8 rfl ?_
  refine V.bipush (v := nI (8)) E dX4_charactersIn_10 (by decide) ?_
  refine V.icmp_geN (tgt := 59) E (by omega) (by omega) dX4_charactersIn_12 (by decide) (fun q_12 => ?_) (fun q_12 => ?_)
  · obtain rfl : i8 = 8 := by omega
    refine V.iload E dX4_charactersIn_59 rfl ?_
    refine V.topN (b := chN u_) ((hg_8.trans (chS_0 (u_8 hu))).symm) ?_
    exact hend _ _ _ _ dX4_charactersIn_61 (nrI _) ⟨rfl, rfl⟩
  · refine V.lload_n E dX4_charactersIn_15 rfl rfl ?_
    refine V.lconst (v := 0) E dX4_charactersIn_16 (by decide) ?_
    refine V.lcmp E dX4_charactersIn_17 ?_
    refine V.if_eq (tgt := 59) E dX4_charactersIn_18 (by decide) (fun q_18 => ?_) (fun q_18 => ?_)
    · refine V.iload E dX4_charactersIn_59 rfl ?_
      refine V.topN (b := chN u_) ((hg_8.trans (chS_0 (ln_0 (u_lt hu) q_18))).symm) ?_
      exact hend _ _ _ _ dX4_charactersIn_61 (nrI _) ⟨rfl, rfl⟩
    · refine V.lload_n E dX4_charactersIn_21 rfl rfl ?_
      refine V.ldc2 (v := 255) E (by decide +kernel) dX4_charactersIn_22 ?_
      refine V.land E dX4_charactersIn_25 ?_
      refine V.topl (y := lN (u_ / 256 ^ i8 % 256)) (ln_land _) ?_
      refine V.l2i E dX4_charactersIn_26 rfl ?_
      refine V.top (y := nI (cdN u_ i8)) (lN_i _) ?_
      refine V.istore (lv' := [none, none, some (.long (lN (u_ / 256 ^ i8))), none, some (.int (nI (i8))), some (.int (nI (i8))), some (.int (nI (cdN u_ i8)))]) E dX4_charactersIn_27 (Nat.le_of_ble_eq_true rfl) rfl rfl ?_
      refine V.iload E dX4_charactersIn_29 rfl ?_
      refine V.bipush (v := nI (33)) E dX4_charactersIn_31 (by decide) ?_
      refine V.icmp_ltN (tgt := 43) E (Nat.lt_trans (cd_lt _ _) (by decide)) (by decide) dX4_charactersIn_33 (by decide) (fun q_33 => ?_) (fun q_33 => ?_)
      · refine V.iconst (v := nI (0)) E dX4_charactersIn_43 (by decide) ?_
        refine V.topN (b := chN u_) ((hg_8.trans (by rw [show 8 - i8 = (8 - (i8 + 1)) + 1 by omega]; exact chS_f (ln_n0 q_18) (decide_eq_false (by omega)))).symm) ?_
        exact hend _ _ _ _ dX4_charactersIn_44 (nrI _) ⟨rfl, rfl⟩
      · refine V.iload E dX4_charactersIn_36 rfl ?_
        refine V.bipush (v := nI (126)) E dX4_charactersIn_38 (by decide) ?_
        refine V.icmp_leN (tgt := 45) E (Nat.lt_trans (cd_lt _ _) (by decide)) (by decide) dX4_charactersIn_40 (by decide) (fun q_40 => ?_) (fun q_40 => ?_)
        · refine V.iincN (lv' := [none, none, some (.long (lN (u_ / 256 ^ i8))), none, some (.int (nI (i8 + 1))), some (.int (nI (i8))), some (.int (nI (cdN u_ i8)))]) E dX4_charactersIn_45 rfl (Nat.le_of_ble_eq_true rfl) rfl rfl ?_
          refine V.lload_n E dX4_charactersIn_48 rfl rfl ?_
          refine V.bipush (v := nI (8)) E dX4_charactersIn_49 (by decide) ?_
          refine V.lushr (v := lN (u_ / 256 ^ i8 / 2 ^ 8)) E dX4_charactersIn_51 (ln_ushr (u_lt hu) (by decide)) ?_
          refine V.lstore_n (lv' := [none, none, some (.long (lN (u_ / 256 ^ i8 / 2 ^ 8))), none, some (.int (nI (i8 + 1))), some (.int (nI (i8))), some (.int (nI (cdN u_ i8)))]) E dX4_charactersIn_52 rfl (Nat.le_of_ble_eq_true rfl) rfl rfl ?_
          refine V.iincN (lv' := [none, none, some (.long (lN (u_ / 256 ^ i8 / 2 ^ 8))), none, some (.int (nI (i8 + 1))), some (.int (nI (i8 + 1))), some (.int (nI (cdN u_ i8)))]) E dX4_charactersIn_53 rfl (Nat.le_of_ble_eq_true rfl) rfl rfl ?_
          refine V.goto (tgt := 8) E dX4_charactersIn_56 (by decide) ?_
          refine V.drop (lv' := [none, none, some (.long (lN (u_ / 256 ^ i8 / 2 ^ 8))), none, some (.int (nI (i8 + 1))), some (.int (nI (i8 + 1))), none]) [true, true, true, true, true, true, false] rfl ?_
          refine V.locl (y := lN (u_ / 256 ^ (i8 + 1))) (lv' := [none, none, some (.long (lN (u_ / 256 ^ (i8 + 1)))), none, some (.int (nI (i8 + 1))), some (.int (nI (i8 + 1))), none]) 2 (by rw [u_s]) rfl rfl ?_
          exact ih_8 (by omega) (()) (hg_8.trans (by rw [show 8 - i8 = (8 - (i8 + 1)) + 1 by omega]; exact chS_t (decide_eq_true (by omega))))
        · refine V.iconst (v := nI (0)) E dX4_charactersIn_43 (by decide) ?_
          refine V.topN (b := chN u_) ((hg_8.trans (by rw [show 8 - i8 = (8 - (i8 + 1)) + 1 by omega]; exact chS_f (ln_n0 q_18) (decide_eq_false (by omega)))).symm) ?_
          exact hend _ _ _ _ dX4_charactersIn_44 (nrI _) ⟨rfl, rfl⟩
theorem hv_lt {k : Nat} (h : k < 6) : hv k ≤ 45 := (by decide : ∀ j, j < 6 → hv j ≤ 45) k h
abbrev rm_c_X4_errorOfSetting_bad : Room := { frames := 1, cells := 0, slots := 0, locals := 20 }
theorem hd_X4_errorOfSetting : yX4_errorOfSetting.cls ≠ "java/lang/invoke/MethodHandle" ∧ yX4_errorOfSetting.cls ≠ "java/lang/invoke/VarHandle" ∧ (parseMethodDescriptor yX4_errorOfSetting.desc).map (fun d => d.parameters.length) = some 2 := by decide +kernel
set_option maxRecDepth 100000 in
set_option maxHeartbeats 8000000 in
theorem c_X4_errorOfSetting_bad (G : VC) (ad : AD) (s0 : Option Nat) (s1 : Option Nat) (x : SC) (k_ : Int32) (v_ : Int32) (hb : okSet k_ v_ = false) : Ctr yX4_errorOfSetting wsX4_errorOfSetting rm_c_X4_errorOfSetting_bad G [.ref (ad 0 0), .int (k_), .int (v_)] (bl [gsW G ad s0 s1, scW G (ad 1) x]) (fun v9_ u9_ => u9_ = (bl [gsW G ad s0 s1, scW G (ad 1) x]) ∧ v9_ = some (.int ((-2 : Int32)))) := by
  refine Ctr.int (cc := cX4_errorOfSetting) (maxL := 5) (ret := (some .int)) (lv0 := [some (.ref (ad 0 0)), some (.int (k_)), some (.int (v_)), none, none]) (by decide) rfl rfl rfl (Nat.le_of_ble_eq_true rfl) rfl (fun A X E hend => ?_)
  refine V.iload_n E dX4_errorOfSetting_0 rfl rfl ?_
  refine V.callS E (c_X4_isSetting G k_ ) (bl [gsW G ad s0 s1, scW G (ad 1) x]) [] gX4_errorOfSetting_X4_isSetting rfl hd_X4_isSetting ⟨⟨Nat.le_of_ble_eq_true rfl, Nat.le_of_ble_eq_true rfl⟩, Nat.le_of_ble_eq_true rfl, Nat.le_of_ble_eq_true rfl⟩ rfl (Nat.le_of_ble_eq_true rfl) rfl dX4_errorOfSetting_1 (List.Perm.refl _) (kc' := 0) (ks' := 0) rfl rfl (rwI (ws' := (bl [gsW G ad s0 s1, scW G (ad 1) x])) (List.Perm.refl _) ?_)
  refine V.if_eqB (tgt := 20) E dX4_errorOfSetting_4 (by decide) (fun q_4 => ?_) (fun q_4 => ?_)
  · refine V.bipush (v := (-2 : Int32)) E dX4_errorOfSetting_20 (by decide) ?_
    exact hend _ _ _ _ dX4_errorOfSetting_22 (nrI _) ⟨rfl, rfl⟩
  · obtain ⟨j_, hj_, rfl⟩ := okI_t q_4 (by decide)
    refine V.iload_n E dX4_errorOfSetting_7 rfl rfl ?_
    refine V.if_lt (tgt := 20) E dX4_errorOfSetting_8 (by decide) (fun q_8 => ?_) (fun q_8 => ?_)
    · refine V.bipush (v := (-2 : Int32)) E dX4_errorOfSetting_20 (by decide) ?_
      exact hend _ _ _ _ dX4_errorOfSetting_22 (nrI _) ⟨rfl, rfl⟩
    · refine V.iload_n E dX4_errorOfSetting_11 rfl rfl ?_
      refine V.gets E (by decide +kernel) dX4_errorOfSetting_12 ?_
      refine V.iload_n E dX4_errorOfSetting_15 rfl rfl ?_
      refine V.thi E (hj_) dX4_errorOfSetting_16 ?_
      refine V.icmp_le (tgt := 23) E dX4_errorOfSetting_17 (by decide) (fun q_17 => ?_) (fun q_17 => ?_)
      · exact absurd ((okSet_k hj_ v_).symm.trans hb) (by rw [okI_of q_8 (by rw [i_le, nI_toInt (by have := hv_lt hj_; omega)]; rw [i_le, nI_toInt (by have := hv_lt hj_; omega)] at q_17; omega) (by have := hv_lt hj_; omega)]; decide)
      · refine V.bipush (v := (-2 : Int32)) E dX4_errorOfSetting_20 (by decide) ?_
        exact hend _ _ _ _ dX4_errorOfSetting_22 (nrI _) ⟨rfl, rfl⟩
abbrev rm_c_X4_errorOfSetting_un : Room := { frames := 1, cells := 0, slots := 0, locals := 20 }
set_option maxRecDepth 100000 in
set_option maxHeartbeats 8000000 in
theorem c_X4_errorOfSetting_un (G : VC) (ad : AD) (s0 : Option Nat) (s1 : Option Nat) (x : SC) (k_ : Nat) (v_ : Nat) (hx : SInv x) (hk : k_ < 6) (hv_ : v_ ≤ hv k_) (ho : ordN x k_ v_ = false) : Ctr yX4_errorOfSetting wsX4_errorOfSetting rm_c_X4_errorOfSetting_un G [.ref (ad 0 0), .int (nI (k_)), .int (nI (v_))] (bl [gsW G ad s0 s1, scW G (ad 1) x]) (fun v9_ u9_ => u9_ = (bl [gsW G ad s0 s1, scW G (ad 1) x]) ∧ v9_ = some (.int ((-5 : Int32)))) := by
  refine Ctr.int (cc := cX4_errorOfSetting) (maxL := 5) (ret := (some .int)) (lv0 := [some (.ref (ad 0 0)), some (.int (nI (k_))), some (.int (nI (v_))), none, none]) (by decide) rfl rfl rfl (Nat.le_of_ble_eq_true rfl) rfl (fun A X E hend => ?_)
  refine V.iload_n E dX4_errorOfSetting_0 rfl rfl ?_
  refine V.callS E (c_X4_isSetting G (nI (k_)) ) (bl [gsW G ad s0 s1, scW G (ad 1) x]) [] gX4_errorOfSetting_X4_isSetting rfl hd_X4_isSetting ⟨⟨Nat.le_of_ble_eq_true rfl, Nat.le_of_ble_eq_true rfl⟩, Nat.le_of_ble_eq_true rfl, Nat.le_of_ble_eq_true rfl⟩ rfl (Nat.le_of_ble_eq_true rfl) rfl dX4_errorOfSetting_1 (List.Perm.refl _) (kc' := 0) (ks' := 0) rfl rfl (rwI (ws' := (bl [gsW G ad s0 s1, scW G (ad 1) x])) (List.Perm.refl _) ?_)
  refine V.if_eqB (tgt := 20) E dX4_errorOfSetting_4 (by decide) (fun q_4 => ?_) (fun q_4 => ?_)
  · exact absurd ((okI_n hk (by omega)).symm.trans q_4) (by decide)
  · refine V.iload_n E dX4_errorOfSetting_7 rfl rfl ?_
    refine V.if_ltN (tgt := 20) E ((by have := hv_lt hk; omega)) dX4_errorOfSetting_8 (by decide) ?_
    refine V.iload_n E dX4_errorOfSetting_11 rfl rfl ?_
    refine V.gets E (by decide +kernel) dX4_errorOfSetting_12 ?_
    refine V.iload_n E dX4_errorOfSetting_15 rfl rfl ?_
    refine V.thi E (hk) dX4_errorOfSetting_16 ?_
    refine V.icmp_leN (tgt := 23) E (by have := hv_lt hk; omega) (by have := hv_lt hk; omega) dX4_errorOfSetting_17 (by decide) (fun q_17 => ?_) (fun q_17 => ?_)
    · refine V.iload_n E dX4_errorOfSetting_23 rfl rfl ?_
      refine V.if_neN (tgt := 31) E ((by omega)) dX4_errorOfSetting_24 (by decide) (fun q_24 => ?_) (fun q_24 => ?_)
      · refine V.aload_n E dX4_errorOfSetting_31 rfl rfl ?_
        refine V.getf (C := RX4) (T := TX4) (N := 7) (ref := "GlassSpill") E 0 4 0 (by decide +kernel) rfl rfl (by decide) (by decide +kernel) rfl rfl dX4_errorOfSetting_32 ?_
        refine V.getf (C := RX2) (T := TX2) (N := 5) (ref := "GlassSpill$Scene") E 2 2 0 (by decide +kernel) rfl rfl (by decide) (by decide +kernel) rfl rfl dX4_errorOfSetting_35 ?_
        refine V.iconst (v := nI (0)) E dX4_errorOfSetting_38 (by decide) ?_
        refine V.ialdN (v := nI (scS x 0)) E 3 rfl (by omega) (by decide) (rfl) dX4_errorOfSetting_39 ?_
        refine V.istore_n (lv' := [some (.ref (ad 0 0)), some (.int (nI (k_))), some (.int (nI (v_))), some (.int (nI (scS x 0))), none]) E dX4_errorOfSetting_40 rfl (Nat.le_of_ble_eq_true rfl) rfl rfl ?_
        refine V.iload_n E dX4_errorOfSetting_41 rfl rfl ?_
        refine V.iconst (v := nI (1)) E dX4_errorOfSetting_42 (by decide) ?_
        refine V.icmp_neN (tgt := 50) E (by omega) (by decide) dX4_errorOfSetting_43 (by decide) (fun q_43 => ?_) (fun q_43 => ?_)
        · refine V.aload_n E dX4_errorOfSetting_50 rfl rfl ?_
          refine V.getf (C := RX4) (T := TX4) (N := 7) (ref := "GlassSpill") E 0 4 0 (by decide +kernel) rfl rfl (by decide) (by decide +kernel) rfl rfl dX4_errorOfSetting_51 ?_
          refine V.getf (C := RX2) (T := TX2) (N := 5) (ref := "GlassSpill$Scene") E 2 2 0 (by decide +kernel) rfl rfl (by decide) (by decide +kernel) rfl rfl dX4_errorOfSetting_54 ?_
          refine V.iconst (v := nI (1)) E dX4_errorOfSetting_57 (by decide) ?_
          refine V.ialdN (v := nI (scS x 1)) E 3 rfl (by omega) (by decide) (rfl) dX4_errorOfSetting_58 ?_
          refine V.istore (lv' := [some (.ref (ad 0 0)), some (.int (nI (k_))), some (.int (nI (v_))), some (.int (nI (scS x 0))), some (.int (nI (scS x 1)))]) E dX4_errorOfSetting_59 (Nat.le_of_ble_eq_true rfl) rfl rfl ?_
          refine V.iload_n E dX4_errorOfSetting_61 rfl rfl ?_
          refine V.iload E dX4_errorOfSetting_62 rfl ?_
          refine V.icmp_geN (tgt := 71) E (by have := hx.s0; have := hv_lt hk; omega) (by have := hx.s1; have := hv_lt hk; omega) dX4_errorOfSetting_64 (by decide) (fun q_64 => ?_) (fun q_64 => ?_)
          · refine V.bipush (v := (-5 : Int32)) E dX4_errorOfSetting_71 (by decide) ?_
            exact hend _ _ _ _ dX4_errorOfSetting_73 (nrI _) ⟨rfl, rfl⟩
          · exact absurd ho (by unfold ordN; rw [decide_eq_true (by (repeat' split) <;> omega)]; decide)
        · refine V.iload_n E dX4_errorOfSetting_46 rfl rfl ?_
          refine V.goto (tgt := 59) E dX4_errorOfSetting_47 (by decide) ?_
          refine V.istore (lv' := [some (.ref (ad 0 0)), some (.int (nI (k_))), some (.int (nI (v_))), some (.int (nI (scS x 0))), some (.int (nI (v_)))]) E dX4_errorOfSetting_59 (Nat.le_of_ble_eq_true rfl) rfl rfl ?_
          refine V.iload_n E dX4_errorOfSetting_61 rfl rfl ?_
          refine V.iload E dX4_errorOfSetting_62 rfl ?_
          refine V.icmp_geN (tgt := 71) E (by have := hx.s0; have := hv_lt hk; omega) (by have := hx.s1; have := hv_lt hk; omega) dX4_errorOfSetting_64 (by decide) (fun q_64 => ?_) (fun q_64 => ?_)
          · refine V.bipush (v := (-5 : Int32)) E dX4_errorOfSetting_71 (by decide) ?_
            exact hend _ _ _ _ dX4_errorOfSetting_73 (nrI _) ⟨rfl, rfl⟩
          · exact absurd ho (by unfold ordN; rw [decide_eq_true (by (repeat' split) <;> omega)]; decide)
      · refine V.iload_n E dX4_errorOfSetting_27 rfl rfl ?_
        refine V.goto (tgt := 40) E dX4_errorOfSetting_28 (by decide) ?_
        refine V.istore_n (lv' := [some (.ref (ad 0 0)), some (.int (nI (k_))), some (.int (nI (v_))), some (.int (nI (v_))), none]) E dX4_errorOfSetting_40 rfl (Nat.le_of_ble_eq_true rfl) rfl rfl ?_
        refine V.iload_n E dX4_errorOfSetting_41 rfl rfl ?_
        refine V.iconst (v := nI (1)) E dX4_errorOfSetting_42 (by decide) ?_
        refine V.icmp_neN (tgt := 50) E (by omega) (by decide) dX4_errorOfSetting_43 (by decide) (fun q_43 => ?_) (fun q_43 => ?_)
        · refine V.aload_n E dX4_errorOfSetting_50 rfl rfl ?_
          refine V.getf (C := RX4) (T := TX4) (N := 7) (ref := "GlassSpill") E 0 4 0 (by decide +kernel) rfl rfl (by decide) (by decide +kernel) rfl rfl dX4_errorOfSetting_51 ?_
          refine V.getf (C := RX2) (T := TX2) (N := 5) (ref := "GlassSpill$Scene") E 2 2 0 (by decide +kernel) rfl rfl (by decide) (by decide +kernel) rfl rfl dX4_errorOfSetting_54 ?_
          refine V.iconst (v := nI (1)) E dX4_errorOfSetting_57 (by decide) ?_
          refine V.ialdN (v := nI (scS x 1)) E 3 rfl (by omega) (by decide) (rfl) dX4_errorOfSetting_58 ?_
          refine V.istore (lv' := [some (.ref (ad 0 0)), some (.int (nI (k_))), some (.int (nI (v_))), some (.int (nI (v_))), some (.int (nI (scS x 1)))]) E dX4_errorOfSetting_59 (Nat.le_of_ble_eq_true rfl) rfl rfl ?_
          refine V.iload_n E dX4_errorOfSetting_61 rfl rfl ?_
          refine V.iload E dX4_errorOfSetting_62 rfl ?_
          refine V.icmp_geN (tgt := 71) E (by have := hx.s0; have := hv_lt hk; omega) (by have := hx.s1; have := hv_lt hk; omega) dX4_errorOfSetting_64 (by decide) (fun q_64 => ?_) (fun q_64 => ?_)
          · refine V.bipush (v := (-5 : Int32)) E dX4_errorOfSetting_71 (by decide) ?_
            exact hend _ _ _ _ dX4_errorOfSetting_73 (nrI _) ⟨rfl, rfl⟩
          · exact absurd ho (by unfold ordN; rw [decide_eq_true (by (repeat' split) <;> omega)]; decide)
        · refine V.iload_n E dX4_errorOfSetting_46 rfl rfl ?_
          refine V.goto (tgt := 59) E dX4_errorOfSetting_47 (by decide) ?_
          refine V.istore (lv' := [some (.ref (ad 0 0)), some (.int (nI (k_))), some (.int (nI (v_))), some (.int (nI (v_))), some (.int (nI (v_)))]) E dX4_errorOfSetting_59 (Nat.le_of_ble_eq_true rfl) rfl rfl ?_
          refine V.iload_n E dX4_errorOfSetting_61 rfl rfl ?_
          refine V.iload E dX4_errorOfSetting_62 rfl ?_
          refine V.icmp_geN (tgt := 71) E (by have := hx.s0; have := hv_lt hk; omega) (by have := hx.s1; have := hv_lt hk; omega) dX4_errorOfSetting_64 (by decide) (fun q_64 => ?_) (fun q_64 => ?_)
          · refine V.bipush (v := (-5 : Int32)) E dX4_errorOfSetting_71 (by decide) ?_
            exact hend _ _ _ _ dX4_errorOfSetting_73 (nrI _) ⟨rfl, rfl⟩
          · exact absurd ho (by unfold ordN; rw [decide_eq_true (by (repeat' split) <;> omega)]; decide)
    · exact absurd hv_ (by omega)
abbrev rm_c_X4_errorOfSetting_ok : Room := { frames := 1, cells := 0, slots := 0, locals := 20 }
set_option maxRecDepth 100000 in
set_option maxHeartbeats 8000000 in
theorem c_X4_errorOfSetting_ok (G : VC) (ad : AD) (s0 : Option Nat) (s1 : Option Nat) (x : SC) (k_ : Nat) (v_ : Nat) (hx : SInv x) (hk : k_ < 6) (hv_ : v_ ≤ hv k_) (ho : ordN x k_ v_ = true) : Ctr yX4_errorOfSetting wsX4_errorOfSetting rm_c_X4_errorOfSetting_ok G [.ref (ad 0 0), .int (nI (k_)), .int (nI (v_))] (bl [gsW G ad s0 s1, scW G (ad 1) x]) (fun v9_ u9_ => u9_ = (bl [gsW G ad s0 s1, scW G (ad 1) x]) ∧ v9_ = some (.int (nI (0)))) := by
  refine Ctr.int (cc := cX4_errorOfSetting) (maxL := 5) (ret := (some .int)) (lv0 := [some (.ref (ad 0 0)), some (.int (nI (k_))), some (.int (nI (v_))), none, none]) (by decide) rfl rfl rfl (Nat.le_of_ble_eq_true rfl) rfl (fun A X E hend => ?_)
  refine V.iload_n E dX4_errorOfSetting_0 rfl rfl ?_
  refine V.callS E (c_X4_isSetting G (nI (k_)) ) (bl [gsW G ad s0 s1, scW G (ad 1) x]) [] gX4_errorOfSetting_X4_isSetting rfl hd_X4_isSetting ⟨⟨Nat.le_of_ble_eq_true rfl, Nat.le_of_ble_eq_true rfl⟩, Nat.le_of_ble_eq_true rfl, Nat.le_of_ble_eq_true rfl⟩ rfl (Nat.le_of_ble_eq_true rfl) rfl dX4_errorOfSetting_1 (List.Perm.refl _) (kc' := 0) (ks' := 0) rfl rfl (rwI (ws' := (bl [gsW G ad s0 s1, scW G (ad 1) x])) (List.Perm.refl _) ?_)
  refine V.if_eqB (tgt := 20) E dX4_errorOfSetting_4 (by decide) (fun q_4 => ?_) (fun q_4 => ?_)
  · exact absurd ((okI_n hk (by omega)).symm.trans q_4) (by decide)
  · refine V.iload_n E dX4_errorOfSetting_7 rfl rfl ?_
    refine V.if_ltN (tgt := 20) E ((by have := hv_lt hk; omega)) dX4_errorOfSetting_8 (by decide) ?_
    refine V.iload_n E dX4_errorOfSetting_11 rfl rfl ?_
    refine V.gets E (by decide +kernel) dX4_errorOfSetting_12 ?_
    refine V.iload_n E dX4_errorOfSetting_15 rfl rfl ?_
    refine V.thi E (hk) dX4_errorOfSetting_16 ?_
    refine V.icmp_leN (tgt := 23) E (by have := hv_lt hk; omega) (by have := hv_lt hk; omega) dX4_errorOfSetting_17 (by decide) (fun q_17 => ?_) (fun q_17 => ?_)
    · refine V.iload_n E dX4_errorOfSetting_23 rfl rfl ?_
      refine V.if_neN (tgt := 31) E ((by omega)) dX4_errorOfSetting_24 (by decide) (fun q_24 => ?_) (fun q_24 => ?_)
      · refine V.aload_n E dX4_errorOfSetting_31 rfl rfl ?_
        refine V.getf (C := RX4) (T := TX4) (N := 7) (ref := "GlassSpill") E 0 4 0 (by decide +kernel) rfl rfl (by decide) (by decide +kernel) rfl rfl dX4_errorOfSetting_32 ?_
        refine V.getf (C := RX2) (T := TX2) (N := 5) (ref := "GlassSpill$Scene") E 2 2 0 (by decide +kernel) rfl rfl (by decide) (by decide +kernel) rfl rfl dX4_errorOfSetting_35 ?_
        refine V.iconst (v := nI (0)) E dX4_errorOfSetting_38 (by decide) ?_
        refine V.ialdN (v := nI (scS x 0)) E 3 rfl (by omega) (by decide) (rfl) dX4_errorOfSetting_39 ?_
        refine V.istore_n (lv' := [some (.ref (ad 0 0)), some (.int (nI (k_))), some (.int (nI (v_))), some (.int (nI (scS x 0))), none]) E dX4_errorOfSetting_40 rfl (Nat.le_of_ble_eq_true rfl) rfl rfl ?_
        refine V.iload_n E dX4_errorOfSetting_41 rfl rfl ?_
        refine V.iconst (v := nI (1)) E dX4_errorOfSetting_42 (by decide) ?_
        refine V.icmp_neN (tgt := 50) E (by omega) (by decide) dX4_errorOfSetting_43 (by decide) (fun q_43 => ?_) (fun q_43 => ?_)
        · refine V.aload_n E dX4_errorOfSetting_50 rfl rfl ?_
          refine V.getf (C := RX4) (T := TX4) (N := 7) (ref := "GlassSpill") E 0 4 0 (by decide +kernel) rfl rfl (by decide) (by decide +kernel) rfl rfl dX4_errorOfSetting_51 ?_
          refine V.getf (C := RX2) (T := TX2) (N := 5) (ref := "GlassSpill$Scene") E 2 2 0 (by decide +kernel) rfl rfl (by decide) (by decide +kernel) rfl rfl dX4_errorOfSetting_54 ?_
          refine V.iconst (v := nI (1)) E dX4_errorOfSetting_57 (by decide) ?_
          refine V.ialdN (v := nI (scS x 1)) E 3 rfl (by omega) (by decide) (rfl) dX4_errorOfSetting_58 ?_
          refine V.istore (lv' := [some (.ref (ad 0 0)), some (.int (nI (k_))), some (.int (nI (v_))), some (.int (nI (scS x 0))), some (.int (nI (scS x 1)))]) E dX4_errorOfSetting_59 (Nat.le_of_ble_eq_true rfl) rfl rfl ?_
          refine V.iload_n E dX4_errorOfSetting_61 rfl rfl ?_
          refine V.iload E dX4_errorOfSetting_62 rfl ?_
          refine V.icmp_geN (tgt := 71) E (by have := hx.s0; have := hv_lt hk; omega) (by have := hx.s1; have := hv_lt hk; omega) dX4_errorOfSetting_64 (by decide) (fun q_64 => ?_) (fun q_64 => ?_)
          · exact absurd ho (by unfold ordN; rw [decide_eq_false (by (repeat' split) <;> omega)]; decide)
          · refine V.iconst (v := nI (0)) E dX4_errorOfSetting_67 (by decide) ?_
            refine V.goto (tgt := 73) E dX4_errorOfSetting_68 (by decide) ?_
            exact hend _ _ _ _ dX4_errorOfSetting_73 (nrI _) ⟨rfl, rfl⟩
        · refine V.iload_n E dX4_errorOfSetting_46 rfl rfl ?_
          refine V.goto (tgt := 59) E dX4_errorOfSetting_47 (by decide) ?_
          refine V.istore (lv' := [some (.ref (ad 0 0)), some (.int (nI (k_))), some (.int (nI (v_))), some (.int (nI (scS x 0))), some (.int (nI (v_)))]) E dX4_errorOfSetting_59 (Nat.le_of_ble_eq_true rfl) rfl rfl ?_
          refine V.iload_n E dX4_errorOfSetting_61 rfl rfl ?_
          refine V.iload E dX4_errorOfSetting_62 rfl ?_
          refine V.icmp_geN (tgt := 71) E (by have := hx.s0; have := hv_lt hk; omega) (by have := hx.s1; have := hv_lt hk; omega) dX4_errorOfSetting_64 (by decide) (fun q_64 => ?_) (fun q_64 => ?_)
          · exact absurd ho (by unfold ordN; rw [decide_eq_false (by (repeat' split) <;> omega)]; decide)
          · refine V.iconst (v := nI (0)) E dX4_errorOfSetting_67 (by decide) ?_
            refine V.goto (tgt := 73) E dX4_errorOfSetting_68 (by decide) ?_
            exact hend _ _ _ _ dX4_errorOfSetting_73 (nrI _) ⟨rfl, rfl⟩
      · refine V.iload_n E dX4_errorOfSetting_27 rfl rfl ?_
        refine V.goto (tgt := 40) E dX4_errorOfSetting_28 (by decide) ?_
        refine V.istore_n (lv' := [some (.ref (ad 0 0)), some (.int (nI (k_))), some (.int (nI (v_))), some (.int (nI (v_))), none]) E dX4_errorOfSetting_40 rfl (Nat.le_of_ble_eq_true rfl) rfl rfl ?_
        refine V.iload_n E dX4_errorOfSetting_41 rfl rfl ?_
        refine V.iconst (v := nI (1)) E dX4_errorOfSetting_42 (by decide) ?_
        refine V.icmp_neN (tgt := 50) E (by omega) (by decide) dX4_errorOfSetting_43 (by decide) (fun q_43 => ?_) (fun q_43 => ?_)
        · refine V.aload_n E dX4_errorOfSetting_50 rfl rfl ?_
          refine V.getf (C := RX4) (T := TX4) (N := 7) (ref := "GlassSpill") E 0 4 0 (by decide +kernel) rfl rfl (by decide) (by decide +kernel) rfl rfl dX4_errorOfSetting_51 ?_
          refine V.getf (C := RX2) (T := TX2) (N := 5) (ref := "GlassSpill$Scene") E 2 2 0 (by decide +kernel) rfl rfl (by decide) (by decide +kernel) rfl rfl dX4_errorOfSetting_54 ?_
          refine V.iconst (v := nI (1)) E dX4_errorOfSetting_57 (by decide) ?_
          refine V.ialdN (v := nI (scS x 1)) E 3 rfl (by omega) (by decide) (rfl) dX4_errorOfSetting_58 ?_
          refine V.istore (lv' := [some (.ref (ad 0 0)), some (.int (nI (k_))), some (.int (nI (v_))), some (.int (nI (v_))), some (.int (nI (scS x 1)))]) E dX4_errorOfSetting_59 (Nat.le_of_ble_eq_true rfl) rfl rfl ?_
          refine V.iload_n E dX4_errorOfSetting_61 rfl rfl ?_
          refine V.iload E dX4_errorOfSetting_62 rfl ?_
          refine V.icmp_geN (tgt := 71) E (by have := hx.s0; have := hv_lt hk; omega) (by have := hx.s1; have := hv_lt hk; omega) dX4_errorOfSetting_64 (by decide) (fun q_64 => ?_) (fun q_64 => ?_)
          · exact absurd ho (by unfold ordN; rw [decide_eq_false (by (repeat' split) <;> omega)]; decide)
          · refine V.iconst (v := nI (0)) E dX4_errorOfSetting_67 (by decide) ?_
            refine V.goto (tgt := 73) E dX4_errorOfSetting_68 (by decide) ?_
            exact hend _ _ _ _ dX4_errorOfSetting_73 (nrI _) ⟨rfl, rfl⟩
        · refine V.iload_n E dX4_errorOfSetting_46 rfl rfl ?_
          refine V.goto (tgt := 59) E dX4_errorOfSetting_47 (by decide) ?_
          refine V.istore (lv' := [some (.ref (ad 0 0)), some (.int (nI (k_))), some (.int (nI (v_))), some (.int (nI (v_))), some (.int (nI (v_)))]) E dX4_errorOfSetting_59 (Nat.le_of_ble_eq_true rfl) rfl rfl ?_
          refine V.iload_n E dX4_errorOfSetting_61 rfl rfl ?_
          refine V.iload E dX4_errorOfSetting_62 rfl ?_
          refine V.icmp_geN (tgt := 71) E (by have := hx.s0; have := hv_lt hk; omega) (by have := hx.s1; have := hv_lt hk; omega) dX4_errorOfSetting_64 (by decide) (fun q_64 => ?_) (fun q_64 => ?_)
          · exact absurd ho (by unfold ordN; rw [decide_eq_false (by (repeat' split) <;> omega)]; decide)
          · refine V.iconst (v := nI (0)) E dX4_errorOfSetting_67 (by decide) ?_
            refine V.goto (tgt := 73) E dX4_errorOfSetting_68 (by decide) ?_
            exact hend _ _ _ _ dX4_errorOfSetting_73 (nrI _) ⟨rfl, rfl⟩
    · exact absurd hv_ (by omega)
