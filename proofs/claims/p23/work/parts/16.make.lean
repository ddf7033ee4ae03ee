/-! what is made: the constructors -/
theorem pBo (bs : List va_W) (ix : List Nat) {n : Nat} (hn : bs.length = n) (h : ix.Perm (List.range n)) : bs.flatten.Perm ((ix.map (fun i => bs.getD i [])).flatten) := pB bs ix (by rw [hn]; exact h)
theorem blS (bs : List va_W) (c : va_W) : bl bs ++ c = bl (bs ++ [c]) := by simp
section
variable {G : VC} {A : Nat → Prop} {X : VX} {R : Room} {cc : ByteArray} {own : String} {Ts : List Cond} {nL : Nat} {bs : List va_W} {kc ks pc : Nat} {lv : List (Option Value)} {st : List Value}
theorem V.newB (E : Ev G A X cc own Ts nL) {C : String} {T : u_T} {N index : Nat} (ci : Nat) {fs : List Value} (hin : ∀ w ∈ u_ws C T N, w ∈ Ts) {ty0 : Nat → FieldType} (hty : ∀ k, k < N → parseFieldDescriptor (T k).2.2.1 = some (ty0 k)) (hc : vwCl[ci]? = some (C, T, N)) (hcl : Cond.classLink own index C ∈ Ts) (hinst : Cond.instantiable C N ∈ Ts) (hini : Cond.initialized C ∈ Ts) (hfs : ∀ j, j < N → defaultValue (ty0 j) = vp_V fs j) (hR : kc + 1 ≤ R.cells ∧ ks + N ≤ R.slots) (hdg : decode cc pc = .ok (.new index, 3))
    (k : ∀ q : Nat, V G A X R (bl (bs ++ [[(q, kO ci fs)]])) (kc + 1) (ks + N) (pc + 3) lv (.ref q :: st)) : V G A X R (bl bs) kc ks pc lv st :=
  V.new E ci hin hty hc hcl hinst hini hfs hR hdg (fun q => by rw [blS]; exact k q)
theorem V.newaB (E : Ev G A X cc own Ts nL) (t0 : Nat) {c : ClassId} {ty : FieldType} {atype : ArrayType} (ht : (TY G)[t0]? = some (c, ty)) (hty : newarray.typeOf atype = ty) (harr : Cond.arrayClass (newarray.typeOf atype) ∈ Ts) {n : Nat} (hn : n < 2 ^ 20) (hz : defaultValue ty = .int 0) (hcb : componentBytes ty = 4 ∨ componentBytes ty = 1) (hR : kc + 1 ≤ R.cells ∧ ks + n ≤ R.slots) (hdg : decode cc pc = .ok (.newarray atype, 2))
    (k : ∀ q : Nat, V G A X R (bl (bs ++ [[(q, kA c n (nA (fun _ => 0)))]])) (kc + 1) (ks + n) (pc + 2) lv (.ref q :: st)) : V G A X R (bl bs) kc ks pc lv (.int (nI n) :: st) :=
  V.newa E t0 ht hty harr hn hz hcb hR hdg (fun q => by rw [blS]; exact k q)
theorem V.newqB (E : Ev G A X cc own Ts nL) {index : Nat} (hcl : Cond.classLink own index RX2 ∈ Ts) {n : Nat} (hn : n < 2 ^ 20) (hR : kc + 1 ≤ R.cells ∧ ks + n ≤ R.slots) (hdg : decode cc pc = .ok (.anewarray index, 3))
    (k : ∀ q : Nat, V G A X R (bl (bs ++ [[(q, kQ (gS G) n (fun _ => none))]])) (kc + 1) (ks + n) (pc + 3) lv (.ref q :: st)) : V G A X R (bl bs) kc ks pc lv (.int (nI n) :: st) :=
  V.newq E hcl hn hR hdg (fun q => by rw [blS]; exact k q)
end
/-- addresses by a list -/
def adr (l : List Nat) (i : Nat) : Nat := l.getD i 0
def z0 : Nat → Nat := fun _ => 0
/-- the scene at the start -/
def sc00 : SC := (fv, z0, z0, z0, 240)
def fl0 : Nat → Nat := upN (upN (upN (upN (upN (upN (fun _ => 0) 0 6) 1 18) 2 16) 3 8) 4 4) 6 240
theorem fl0_e (j : Nat) (h : j < 151) : nA fl0 j = nA (fla sc00) j := by
  refine congrArg nI ?_
  unfold fl0 upN fla
  by_cases h6 : j = 6
  · subst h6; rfl
  · rw [if_neg h6]
    by_cases h5 : j < 6
    · rw [if_pos h5]
      rcases (show j = 0 ∨ j = 1 ∨ j = 2 ∨ j = 3 ∨ j = 4 ∨ j = 5 by omega) with rfl | rfl | rfl | rfl | rfl | rfl <;> rfl
    · rw [if_neg h5, if_neg h6, if_neg (by omega), if_neg (by omega), if_neg (by omega), if_neg (by omega), if_neg (by omega)]
      split
      · rfl
      · split <;> rfl
section
variable {G : VC} {A : Nat → Prop} {X : VX} {R : Room} {cc : ByteArray} {own : String} {Ts : List Cond} {nL : Nat} {ws : va_W} {kc ks pc : Nat} {lv : List (Option Value)} {st : List Value}
/-- the first values, copied out of their static row -/
theorem V.copyF (E : Ev G A X cc own Ts nL) (q1 : Nat) {a1 index : Nat} {g : Nat → Int32} {ws' : va_W} (ha : ws[q1]? = some (a1, kA (gI G) 6 g))
    (hl : Cond.methodLink own index arraycopyName ∈ Ts) (hna : Cond.native arraycopyName ∈ Ts) (hsta : Cond.static arraycopyName ∈ Ts) (hini : Cond.initialized "java/lang/System" ∈ Ts) (hR : 1 ≤ R.frames ∧ (st.map fun v => v.category).sum + (nativeFrameWords "java/lang/System" "arraycopy" 5 + 11) ≤ R.locals) (hnl : lv.length = nL) (hdg : decode cc pc = .ok (.invokestatic index, 3)) (hw : ws.set q1 (a1, kA (gI G) 6 (nA fv)) = ws') (k : V G A X R ws' kc ks (pc + 3) lv st) : V G A X R ws kc ks pc lv (.int (nI 6) :: .int (nI 0) :: .ref a1 :: .int (nI 0) :: .ref G.2.2.1 :: st) := by
  intro H locs ls hP hD hS hls T hT X0
  have E0 := E
  obtain ⟨hexec, hb, hml, hown, hT0, hK, hA0, hG⟩ := E
  obtain ⟨scr, hs1, hs2, hs3, hs4, -, hs5, hs7⟩ := hG.2.2.2.1
  have hc0 : H[G.2.2.1]? = some scr := by rw [hS.2.1 _ (Array.getElem?_eq_some_iff.mp hs1).1 hs7]; exact hs1
  have hc1 : H[a1]? = some (vp_cell (gI G) (6, .inl g)) := hP q1 _ ha
  obtain ⟨hs6, k0, hk0, cm0, hkk0⟩ := hs2
  obtain ⟨-, k1, hk1, cm1, hkk1⟩ := (hK.2 0 _ rfl).1 6 (fun j => .int (g j))
  have c6 : (nI 6).toNatClampNeg = 6 := rfl
  have c0 : (nI 0).toNatClampNeg = 0 := rfl
  obtain ⟨vm', X', step⟩ := X0.arraycopy hexec hown (hT0 _ hl) (hT0 _ hna) (hT0 _ hsta) (hT0 _ hini) (src := G.2.2.1) (dst := a1) (cs := scr) (cd := vp_cell (gI G) (6, .inl g)) (srcPos := nI 0) (destPos := nI 0) (n := nI 6) (by rw [hT]; exact hc0) (by rw [hT]; exact hc1)
    hs6 (fun _ h => by cases h) hs3 (fun h => by cases h) hk0 hk1 hkk0 hkk1 (by simp [refKind]) (by decide) (by decide) (by decide)
    (by show ¬ (0 + 6 : Int) > (scr.slots.size : Int); omega)
    (by show ¬ (0 + 6 : Int) > ((arrV (gI G) 6 (fun j => .int (g j))).slots.size : Int); rw [arrV_size]; omega)
    (fun vm₁ _ i hi => by
      rw [c6] at hi
      have e : scr.slots.getD ((nI 0).toNatClampNeg + i) .null = .int (nI (fv i)) := by
        rw [c0, Nat.zero_add, Array.getD_eq_getD_getElem?, hs5 _ hi]
        rfl
      refine ⟨?_, ?_⟩
      · rw [e]; rfl
      · rw [e]; exact trivial)
    (g := F0 (xm X) pc ls (.int (nI 6) :: .int (nI 0) :: .ref a1 :: .int (nI 0) :: .ref G.2.2.1 :: st)) rfl (by rw [hml]; exact hls.1.trans hnl) (rest := st) rfl (by rw [hb]; exact hdg) hR.1 (by have := hR.2; show 2 * 0 + _ + _ ≤ _; omega)
  have e1 : copied scr (vp_cell (gI G) (6, .inl g)) (nI 0) (nI 0) (nI 6) = vp_cell (gI G) (6, .inl (va_cpy (nA fv) g 0 0 6)) := va_copiedX (fun z => .int z) scr (gI G) (nA fv) g hs5 (by decide)
  rw [e1] at X' step
  have hlt : a1 < H.size := (Array.getElem?_eq_some_iff.mp hc1).1
  have hheap : ((T.setVm vm').setCell a1 (vp_cell (gI G) (6, .inl (va_cpy (nA fv) g 0 0 6)))).heap = H.setIfInBounds a1 (vp_cell (gI G) (6, .inl (va_cpy (nA fv) g 0 0 6))) := by rw [← hT]; rfl
  have oq : ∀ q : Nat, q ≠ a1 → (H.setIfInBounds a1 (vp_cell (gI G) (6, .inl (va_cpy (nA fv) g 0 0 6))))[q]? = H[q]? := fun q hq => by simp [Array.getElem?_setIfInBounds, Ne.symm hq]
  have hq : q1 < ws.length := (List.getElem?_eq_some_iff.mp ha).1
  have k2 : V G A X R (ws.set q1 (a1, kA (gI G) 6 (va_cpy (nA fv) g 0 0 6))) kc ks (pc + 3) lv st := V.arr (f' := nA fv) q1 (List.getElem?_set_self hq) (fun j hj => by simp only [va_cpy]; rw [if_pos (by omega), show 0 + (j - 0) = j by omega]) (by rw [List.set_set]; exact hw) k
  obtain ⟨t, b1, b2⟩ := k2 _ _ ls (hP.set hD ha (show (H.setIfInBounds a1 _)[a1]? = some _ by simp [Array.getElem?_setIfInBounds, hlt]) oq) (hD.set ha) ⟨by simp; exact hS.1, fun q g1 g2 => by
      rw [oq q (fun e => g2 (by rw [e]; exact hD.2 q1 _ ha))]
      exact hS.2.1 q g1 g2, fun q hq => by
      rcases List.mem_append.mp hq with h | h
      · exact hS.2.2 q h
      · obtain ⟨z, -, hz⟩ := List.mem_map.mp h
        rw [← hz]
        exact hD.2 q1 _ ha⟩ hls _ hheap X'
  exact ⟨t, step t b1, b2⟩
end
abbrev pdW (G : VC) (p : Nat → Nat) (tx : Nat → Nat) (tl : Nat) : va_W := [(p 0, kO 1 [.ref (p 1), .int (nI tl)]), (p 1, kA (gI G) 48 (nA tx))]
abbrev rm_c_X1_init : Room := { frames := 1, cells := 1, slots := 48, locals := 20 }
theorem hd_X1_init : yX1_init.cls ≠ "java/lang/invoke/MethodHandle" ∧ yX1_init.cls ≠ "java/lang/invoke/VarHandle" ∧ (parseMethodDescriptor yX1_init.desc).map (fun d => d.parameters.length) = some 0 := by decide +kernel
set_option maxRecDepth 100000 in
set_option maxHeartbeats 8000000 in
theorem c_X1_init (G : VC) (a_ : Nat) : Ctr yX1_init wsX1_init rm_c_X1_init G [.ref (a_)] (bl [[(a_, kO 1 [.null, .int (nI (0))])]]) (fun v9_ u9_ => ∃ gg : Nat → Nat, u9_ = (bl [pdW G gg z0 0]) ∧ v9_ = none ∧ (gg 0 = a_)) := by
  refine Ctr.void (cc := cX1_init) (maxL := 1) (lv0 := [some (.ref (a_))]) (by decide) rfl rfl rfl (Nat.le_of_ble_eq_true rfl) (fun A X E hinit hend => ?_)
  refine V.aload_n E dX1_init_0 rfl rfl ?_
  refine V.objInit E (by decide +kernel) (by decide +kernel) (by decide +kernel) rfl ⟨Nat.le_of_ble_eq_true rfl, Nat.le_of_ble_eq_true rfl⟩ dX1_init_1 ?_
  refine V.aload_n E dX1_init_4 rfl rfl ?_
  refine V.bipush (v := nI (48)) E dX1_init_5 (by decide) ?_
  refine V.newaB (bs := [[(a_, kO 1 [.null, .int (nI (0))])]]) E 0 rfl rfl (by decide +kernel) (by decide) rfl (by decide) ⟨Nat.le_of_ble_eq_true rfl, Nat.le_of_ble_eq_true rfl⟩ dX1_init_7 (fun n_7 => ?_)
  show V G A X rm_c_X1_init (bl [[(a_, kO 1 [.null, .int (nI (0))])], [(n_7, kA (gI G) 48 (nA (fun _ => 0)))]]) 1 48 9 [some (.ref (a_))] [.ref (n_7), .ref (a_)]
  refine V.putF (C := RX1) (T := TX1) (N := 2) (ref := "GlassSpill$Pad") (ws' := (bl [[(a_, kO 1 [.ref (n_7), .int (nI (0))])], [(n_7, kA (gI G) 48 (nA (fun _ => 0)))]])) E (hinit rfl) 0 1 0 (by decide +kernel) tyX1_ok nmX1 rfl rfl (by decide) (by decide +kernel) rfl rfl rfl rfl rfl (Nat.le_of_ble_eq_true rfl) dX1_init_9 rfl ?_
  refine V.aload_n E dX1_init_12 rfl rfl ?_
  refine V.iconst (v := nI (0)) E dX1_init_13 (by decide) ?_
  refine V.putf (C := RX1) (T := TX1) (N := 2) (ref := "GlassSpill$Pad") (ws' := (bl [[(a_, kO 1 [.ref (n_7), .int (nI (0))])], [(n_7, kA (gI G) 48 (nA (fun _ => 0)))]])) E 0 1 1 (by decide +kernel) tyX1_ok nmX1 rfl rfl (by decide) (by decide +kernel) rfl rfl rfl rfl (Nat.le_of_ble_eq_true rfl) dX1_init_14 rfl ?_
  exact hend _ _ _ dX1_init_17 ⟨adr [a_, n_7], rfl, rfl, rfl⟩
abbrev rm_c_X3_init : Room := { frames := 1, cells := 9, slots := 432, locals := 20 }
theorem hd_X3_init : yX3_init.cls ≠ "java/lang/invoke/MethodHandle" ∧ yX3_init.cls ≠ "java/lang/invoke/VarHandle" ∧ (parseMethodDescriptor yX3_init.desc).map (fun d => d.parameters.length) = some 0 := by decide +kernel
set_option maxRecDepth 100000 in
set_option maxHeartbeats 8000000 in
theorem c_X3_init (G : VC) (a_ : Nat) : Ctr yX3_init wsX3_init rm_c_X3_init G [.ref (a_)] (bl [[(a_, kO 3 [.null, .null, .null, .null, .null, .null, .null, .null, .null, .int (nI (0))])]]) (fun v9_ u9_ => ∃ gg : Nat → Nat, u9_ = (bl [vwW G gg z0 z0 z0 z0 z0 z0 z0 z0 z0 0]) ∧ v9_ = none ∧ (gg 0 = a_)) := by
  refine Ctr.void (cc := cX3_init) (maxL := 1) (lv0 := [some (.ref (a_))]) (by decide) rfl rfl rfl (Nat.le_of_ble_eq_true rfl) (fun A X E hinit hend => ?_)
  refine V.aload_n E dX3_init_0 rfl rfl ?_
  refine V.objInit E (by decide +kernel) (by decide +kernel) (by decide +kernel) rfl ⟨Nat.le_of_ble_eq_true rfl, Nat.le_of_ble_eq_true rfl⟩ dX3_init_1 ?_
  refine V.aload_n E dX3_init_4 rfl rfl ?_
  refine V.bipush (v := nI (48)) E dX3_init_5 (by decide) ?_
  refine V.newaB (bs := [[(a_, kO 3 [.null, .null, .null, .null, .null, .null, .null, .null, .null, .int (nI (0))])]]) E 0 rfl rfl (by decide +kernel) (by decide) rfl (by decide) ⟨Nat.le_of_ble_eq_true rfl, Nat.le_of_ble_eq_true rfl⟩ dX3_init_7 (fun n_7 => ?_)
  show V G A X rm_c_X3_init (bl [[(a_, kO 3 [.null, .null, .null, .null, .null, .null, .null, .null, .null, .int (nI (0))])], [(n_7, kA (gI G) 48 (nA (fun _ => 0)))]]) 1 48 9 [some (.ref (a_))] [.ref (n_7), .ref (a_)]
  refine V.putF (C := RX3) (T := TX3) (N := 10) (ref := "GlassSpill$View") (ws' := (bl [[(a_, kO 3 [.ref (n_7), .null, .null, .null, .null, .null, .null, .null, .null, .int (nI (0))])], [(n_7, kA (gI G) 48 (nA (fun _ => 0)))]])) E (hinit rfl) 0 3 0 (by decide +kernel) tyX3_ok nmX3 rfl rfl (by decide) (by decide +kernel) rfl rfl rfl rfl rfl (Nat.le_of_ble_eq_true rfl) dX3_init_9 rfl ?_
  refine V.aload_n E dX3_init_12 rfl rfl ?_
  refine V.bipush (v := nI (48)) E dX3_init_13 (by decide) ?_
  refine V.newaB (bs := [[(a_, kO 3 [.ref (n_7), .null, .null, .null, .null, .null, .null, .null, .null, .int (nI (0))])], [(n_7, kA (gI G) 48 (nA (fun _ => 0)))]]) E 0 rfl rfl (by decide +kernel) (by decide) rfl (by decide) ⟨Nat.le_of_ble_eq_true rfl, Nat.le_of_ble_eq_true rfl⟩ dX3_init_15 (fun n_15 => ?_)
  show V G A X rm_c_X3_init (bl [[(a_, kO 3 [.ref (n_7), .null, .null, .null, .null, .null, .null, .null, .null, .int (nI (0))])], [(n_7, kA (gI G) 48 (nA (fun _ => 0)))], [(n_15, kA (gI G) 48 (nA (fun _ => 0)))]]) 2 96 17 [some (.ref (a_))] [.ref (n_15), .ref (a_)]
  refine V.putF (C := RX3) (T := TX3) (N := 10) (ref := "GlassSpill$View") (ws' := (bl [[(a_, kO 3 [.ref (n_7), .ref (n_15), .null, .null, .null, .null, .null, .null, .null, .int (nI (0))])], [(n_7, kA (gI G) 48 (nA (fun _ => 0)))], [(n_15, kA (gI G) 48 (nA (fun _ => 0)))]])) E (hinit rfl) 0 3 1 (by decide +kernel) tyX3_ok nmX3 rfl rfl (by decide) (by decide +kernel) rfl rfl rfl rfl rfl (Nat.le_of_ble_eq_true rfl) dX3_init_17 rfl ?_
  refine V.aload_n E dX3_init_20 rfl rfl ?_
  refine V.bipush (v := nI (48)) E dX3_init_21 (by decide) ?_
  refine V.newaB (bs := [[(a_, kO 3 [.ref (n_7), .ref (n_15), .null, .null, .null, .null, .null, .null, .null, .int (nI (0))])], [(n_7, kA (gI G) 48 (nA (fun _ => 0)))], [(n_15, kA (gI G) 48 (nA (fun _ => 0)))]]) E 0 rfl rfl (by decide +kernel) (by decide) rfl (by decide) ⟨Nat.le_of_ble_eq_true rfl, Nat.le_of_ble_eq_true rfl⟩ dX3_init_23 (fun n_23 => ?_)
  show V G A X rm_c_X3_init (bl [[(a_, kO 3 [.ref (n_7), .ref (n_15), .null, .null, .null, .null, .null, .null, .null, .int (nI (0))])], [(n_7, kA (gI G) 48 (nA (fun _ => 0)))], [(n_15, kA (gI G) 48 (nA (fun _ => 0)))], [(n_23, kA (gI G) 48 (nA (fun _ => 0)))]]) 3 144 25 [some (.ref (a_))] [.ref (n_23), .ref (a_)]
  refine V.putF (C := RX3) (T := TX3) (N := 10) (ref := "GlassSpill$View") (ws' := (bl [[(a_, kO 3 [.ref (n_7), .ref (n_15), .ref (n_23), .null, .null, .null, .null, .null, .null, .int (nI (0))])], [(n_7, kA (gI G) 48 (nA (fun _ => 0)))], [(n_15, kA (gI G) 48 (nA (fun _ => 0)))], [(n_23, kA (gI G) 48 (nA (fun _ => 0)))]])) E (hinit rfl) 0 3 2 (by decide +kernel) tyX3_ok nmX3 rfl rfl (by decide) (by decide +kernel) rfl rfl rfl rfl rfl (Nat.le_of_ble_eq_true rfl) dX3_init_25 rfl ?_
  refine V.aload_n E dX3_init_28 rfl rfl ?_
  refine V.bipush (v := nI (48)) E dX3_init_29 (by decide) ?_
  refine V.newaB (bs := [[(a_, kO 3 [.ref (n_7), .ref (n_15), .ref (n_23), .null, .null, .null, .null, .null, .null, .int (nI (0))])], [(n_7, kA (gI G) 48 (nA (fun _ => 0)))], [(n_15, kA (gI G) 48 (nA (fun _ => 0)))], [(n_23, kA (gI G) 48 (nA (fun _ => 0)))]]) E 0 rfl rfl (by decide +kernel) (by decide) rfl (by decide) ⟨Nat.le_of_ble_eq_true rfl, Nat.le_of_ble_eq_true rfl⟩ dX3_init_31 (fun n_31 => ?_)
  show V G A X rm_c_X3_init (bl [[(a_, kO 3 [.ref (n_7), .ref (n_15), .ref (n_23), .null, .null, .null, .null, .null, .null, .int (nI (0))])], [(n_7, kA (gI G) 48 (nA (fun _ => 0)))], [(n_15, kA (gI G) 48 (nA (fun _ => 0)))], [(n_23, kA (gI G) 48 (nA (fun _ => 0)))], [(n_31, kA (gI G) 48 (nA (fun _ => 0)))]]) 4 192 33 [some (.ref (a_))] [.ref (n_31), .ref (a_)]
  refine V.putF (C := RX3) (T := TX3) (N := 10) (ref := "GlassSpill$View") (ws' := (bl [[(a_, kO 3 [.ref (n_7), .ref (n_15), .ref (n_23), .ref (n_31), .null, .null, .null, .null, .null, .int (nI (0))])], [(n_7, kA (gI G) 48 (nA (fun _ => 0)))], [(n_15, kA (gI G) 48 (nA (fun _ => 0)))], [(n_23, kA (gI G) 48 (nA (fun _ => 0)))], [(n_31, kA (gI G) 48 (nA (fun _ => 0)))]])) E (hinit rfl) 0 3 3 (by decide +kernel) tyX3_ok nmX3 rfl rfl (by decide) (by decide +kernel) rfl rfl rfl rfl rfl (Nat.le_of_ble_eq_true rfl) dX3_init_33 rfl ?_
  refine V.aload_n E dX3_init_36 rfl rfl ?_
  refine V.bipush (v := nI (48)) E dX3_init_37 (by decide) ?_
  refine V.newaB (bs := [[(a_, kO 3 [.ref (n_7), .ref (n_15), .ref (n_23), .ref (n_31), .null, .null, .null, .null, .null, .int (nI (0))])], [(n_7, kA (gI G) 48 (nA (fun _ => 0)))], [(n_15, kA (gI G) 48 (nA (fun _ => 0)))], [(n_23, kA (gI G) 48 (nA (fun _ => 0)))], [(n_31, kA (gI G) 48 (nA (fun _ => 0)))]]) E 0 rfl rfl (by decide +kernel) (by decide) rfl (by decide) ⟨Nat.le_of_ble_eq_true rfl, Nat.le_of_ble_eq_true rfl⟩ dX3_init_39 (fun n_39 => ?_)
  show V G A X rm_c_X3_init (bl [[(a_, kO 3 [.ref (n_7), .ref (n_15), .ref (n_23), .ref (n_31), .null, .null, .null, .null, .null, .int (nI (0))])], [(n_7, kA (gI G) 48 (nA (fun _ => 0)))], [(n_15, kA (gI G) 48 (nA (fun _ => 0)))], [(n_23, kA (gI G) 48 (nA (fun _ => 0)))], [(n_31, kA (gI G) 48 (nA (fun _ => 0)))], [(n_39, kA (gI G) 48 (nA (fun _ => 0)))]]) 5 240 41 [some (.ref (a_))] [.ref (n_39), .ref (a_)]
  refine V.putF (C := RX3) (T := TX3) (N := 10) (ref := "GlassSpill$View") (ws' := (bl [[(a_, kO 3 [.ref (n_7), .ref (n_15), .ref (n_23), .ref (n_31), .ref (n_39), .null, .null, .null, .null, .int (nI (0))])], [(n_7, kA (gI G) 48 (nA (fun _ => 0)))], [(n_15, kA (gI G) 48 (nA (fun _ => 0)))], [(n_23, kA (gI G) 48 (nA (fun _ => 0)))], [(n_31, kA (gI G) 48 (nA (fun _ => 0)))], [(n_39, kA (gI G) 48 (nA (fun _ => 0)))]])) E (hinit rfl) 0 3 4 (by decide +kernel) tyX3_ok nmX3 rfl rfl (by decide) (by decide +kernel) rfl rfl rfl rfl rfl (Nat.le_of_ble_eq_true rfl) dX3_init_41 rfl ?_
  refine V.aload_n E dX3_init_44 rfl rfl ?_
  refine V.bipush (v := nI (48)) E dX3_init_45 (by decide) ?_
  refine V.newaB (bs := [[(a_, kO 3 [.ref (n_7), .ref (n_15), .ref (n_23), .ref (n_31), .ref (n_39), .null, .null, .null, .null, .int (nI (0))])], [(n_7, kA (gI G) 48 (nA (fun _ => 0)))], [(n_15, kA (gI G) 48 (nA (fun _ => 0)))], [(n_23, kA (gI G) 48 (nA (fun _ => 0)))], [(n_31, kA (gI G) 48 (nA (fun _ => 0)))], [(n_39, kA (gI G) 48 (nA (fun _ => 0)))]]) E 0 rfl rfl (by decide +kernel) (by decide) rfl (by decide) ⟨Nat.le_of_ble_eq_true rfl, Nat.le_of_ble_eq_true rfl⟩ dX3_init_47 (fun n_47 => ?_)
  show V G A X rm_c_X3_init (bl [[(a_, kO 3 [.ref (n_7), .ref (n_15), .ref (n_23), .ref (n_31), .ref (n_39), .null, .null, .null, .null, .int (nI (0))])], [(n_7, kA (gI G) 48 (nA (fun _ => 0)))], [(n_15, kA (gI G) 48 (nA (fun _ => 0)))], [(n_23, kA (gI G) 48 (nA (fun _ => 0)))], [(n_31, kA (gI G) 48 (nA (fun _ => 0)))], [(n_39, kA (gI G) 48 (nA (fun _ => 0)))], [(n_47, kA (gI G) 48 (nA (fun _ => 0)))]]) 6 288 49 [some (.ref (a_))] [.ref (n_47), .ref (a_)]
  refine V.putF (C := RX3) (T := TX3) (N := 10) (ref := "GlassSpill$View") (ws' := (bl [[(a_, kO 3 [.ref (n_7), .ref (n_15), .ref (n_23), .ref (n_31), .ref (n_39), .ref (n_47), .null, .null, .null, .int (nI (0))])], [(n_7, kA (gI G) 48 (nA (fun _ => 0)))], [(n_15, kA (gI G) 48 (nA (fun _ => 0)))], [(n_23, kA (gI G) 48 (nA (fun _ => 0)))], [(n_31, kA (gI G) 48 (nA (fun _ => 0)))], [(n_39, kA (gI G) 48 (nA (fun _ => 0)))], [(n_47, kA (gI G) 48 (nA (fun _ => 0)))]])) E (hinit rfl) 0 3 5 (by decide +kernel) tyX3_ok nmX3 rfl rfl (by decide) (by decide +kernel) rfl rfl rfl rfl rfl (Nat.le_of_ble_eq_true rfl) dX3_init_49 rfl ?_
  refine V.aload_n E dX3_init_52 rfl rfl ?_
  refine V.bipush (v := nI (48)) E dX3_init_53 (by decide) ?_
  refine V.newaB (bs := [[(a_, kO 3 [.ref (n_7), .ref (n_15), .ref (n_23), .ref (n_31), .ref (n_39), .ref (n_47), .null, .null, .null, .int (nI (0))])], [(n_7, kA (gI G) 48 (nA (fun _ => 0)))], [(n_15, kA (gI G) 48 (nA (fun _ => 0)))], [(n_23, kA (gI G) 48 (nA (fun _ => 0)))], [(n_31, kA (gI G) 48 (nA (fun _ => 0)))], [(n_39, kA (gI G) 48 (nA (fun _ => 0)))], [(n_47, kA (gI G) 48 (nA (fun _ => 0)))]]) E 0 rfl rfl (by decide +kernel) (by decide) rfl (by decide) ⟨Nat.le_of_ble_eq_true rfl, Nat.le_of_ble_eq_true rfl⟩ dX3_init_55 (fun n_55 => ?_)
  show V G A X rm_c_X3_init (bl [[(a_, kO 3 [.ref (n_7), .ref (n_15), .ref (n_23), .ref (n_31), .ref (n_39), .ref (n_47), .null, .null, .null, .int (nI (0))])], [(n_7, kA (gI G) 48 (nA (fun _ => 0)))], [(n_15, kA (gI G) 48 (nA (fun _ => 0)))], [(n_23, kA (gI G) 48 (nA (fun _ => 0)))], [(n_31, kA (gI G) 48 (nA (fun _ => 0)))], [(n_39, kA (gI G) 48 (nA (fun _ => 0)))], [(n_47, kA (gI G) 48 (nA (fun _ => 0)))], [(n_55, kA (gI G) 48 (nA (fun _ => 0)))]]) 7 336 57 [some (.ref (a_))] [.ref (n_55), .ref (a_)]
  refine V.putF (C := RX3) (T := TX3) (N := 10) (ref := "GlassSpill$View") (ws' := (bl [[(a_, kO 3 [.ref (n_7), .ref (n_15), .ref (n_23), .ref (n_31), .ref (n_39), .ref (n_47), .ref (n_55), .null, .null, .int (nI (0))])], [(n_7, kA (gI G) 48 (nA (fun _ => 0)))], [(n_15, kA (gI G) 48 (nA (fun _ => 0)))], [(n_23, kA (gI G) 48 (nA (fun _ => 0)))], [(n_31, kA (gI G) 48 (nA (fun _ => 0)))], [(n_39, kA (gI G) 48 (nA (fun _ => 0)))], [(n_47, kA (gI G) 48 (nA (fun _ => 0)))], [(n_55, kA (gI G) 48 (nA (fun _ => 0)))]])) E (hinit rfl) 0 3 6 (by decide +kernel) tyX3_ok nmX3 rfl rfl (by decide) (by decide +kernel) rfl rfl rfl rfl rfl (Nat.le_of_ble_eq_true rfl) dX3_init_57 rfl ?_
  refine V.aload_n E dX3_init_60 rfl rfl ?_
  refine V.bipush (v := nI (48)) E dX3_init_61 (by decide) ?_
  refine V.newaB (bs := [[(a_, kO 3 [.ref (n_7), .ref (n_15), .ref (n_23), .ref (n_31), .ref (n_39), .ref (n_47), .ref (n_55), .null, .null, .int (nI (0))])], [(n_7, kA (gI G) 48 (nA (fun _ => 0)))], [(n_15, kA (gI G) 48 (nA (fun _ => 0)))], [(n_23, kA (gI G) 48 (nA (fun _ => 0)))], [(n_31, kA (gI G) 48 (nA (fun _ => 0)))], [(n_39, kA (gI G) 48 (nA (fun _ => 0)))], [(n_47, kA (gI G) 48 (nA (fun _ => 0)))], [(n_55, kA (gI G) 48 (nA (fun _ => 0)))]]) E 1 rfl rfl (by decide +kernel) (by decide) rfl (by decide) ⟨Nat.le_of_ble_eq_true rfl, Nat.le_of_ble_eq_true rfl⟩ dX3_init_63 (fun n_63 => ?_)
  show V G A X rm_c_X3_init (bl [[(a_, kO 3 [.ref (n_7), .ref (n_15), .ref (n_23), .ref (n_31), .ref (n_39), .ref (n_47), .ref (n_55), .null, .null, .int (nI (0))])], [(n_7, kA (gI G) 48 (nA (fun _ => 0)))], [(n_15, kA (gI G) 48 (nA (fun _ => 0)))], [(n_23, kA (gI G) 48 (nA (fun _ => 0)))], [(n_31, kA (gI G) 48 (nA (fun _ => 0)))], [(n_39, kA (gI G) 48 (nA (fun _ => 0)))], [(n_47, kA (gI G) 48 (nA (fun _ => 0)))], [(n_55, kA (gI G) 48 (nA (fun _ => 0)))], [(n_63, kA (gZ G) 48 (nA (fun _ => 0)))]]) 8 384 65 [some (.ref (a_))] [.ref (n_63), .ref (a_)]
  refine V.putF (C := RX3) (T := TX3) (N := 10) (ref := "GlassSpill$View") (ws' := (bl [[(a_, kO 3 [.ref (n_7), .ref (n_15), .ref (n_23), .ref (n_31), .ref (n_39), .ref (n_47), .ref (n_55), .ref (n_63), .null, .int (nI (0))])], [(n_7, kA (gI G) 48 (nA (fun _ => 0)))], [(n_15, kA (gI G) 48 (nA (fun _ => 0)))], [(n_23, kA (gI G) 48 (nA (fun _ => 0)))], [(n_31, kA (gI G) 48 (nA (fun _ => 0)))], [(n_39, kA (gI G) 48 (nA (fun _ => 0)))], [(n_47, kA (gI G) 48 (nA (fun _ => 0)))], [(n_55, kA (gI G) 48 (nA (fun _ => 0)))], [(n_63, kA (gZ G) 48 (nA (fun _ => 0)))]])) E (hinit rfl) 0 3 7 (by decide +kernel) tyX3_ok nmX3 rfl rfl (by decide) (by decide +kernel) rfl rfl rfl rfl rfl (Nat.le_of_ble_eq_true rfl) dX3_init_65 rfl ?_
  refine V.aload_n E dX3_init_68 rfl rfl ?_
  refine V.bipush (v := nI (48)) E dX3_init_69 (by decide) ?_
  refine V.newaB (bs := [[(a_, kO 3 [.ref (n_7), .ref (n_15), .ref (n_23), .ref (n_31), .ref (n_39), .ref (n_47), .ref (n_55), .ref (n_63), .null, .int (nI (0))])], [(n_7, kA (gI G) 48 (nA (fun _ => 0)))], [(n_15, kA (gI G) 48 (nA (fun _ => 0)))], [(n_23, kA (gI G) 48 (nA (fun _ => 0)))], [(n_31, kA (gI G) 48 (nA (fun _ => 0)))], [(n_39, kA (gI G) 48 (nA (fun _ => 0)))], [(n_47, kA (gI G) 48 (nA (fun _ => 0)))], [(n_55, kA (gI G) 48 (nA (fun _ => 0)))], [(n_63, kA (gZ G) 48 (nA (fun _ => 0)))]]) E 0 rfl rfl (by decide +kernel) (by decide) rfl (by decide) ⟨Nat.le_of_ble_eq_true rfl, Nat.le_of_ble_eq_true rfl⟩ dX3_init_71 (fun n_71 => ?_)
  show V G A X rm_c_X3_init (bl [[(a_, kO 3 [.ref (n_7), .ref (n_15), .ref (n_23), .ref (n_31), .ref (n_39), .ref (n_47), .ref (n_55), .ref (n_63), .null, .int (nI (0))])], [(n_7, kA (gI G) 48 (nA (fun _ => 0)))], [(n_15, kA (gI G) 48 (nA (fun _ => 0)))], [(n_23, kA (gI G) 48 (nA (fun _ => 0)))], [(n_31, kA (gI G) 48 (nA (fun _ => 0)))], [(n_39, kA (gI G) 48 (nA (fun _ => 0)))], [(n_47, kA (gI G) 48 (nA (fun _ => 0)))], [(n_55, kA (gI G) 48 (nA (fun _ => 0)))], [(n_63, kA (gZ G) 48 (nA (fun _ => 0)))], [(n_71, kA (gI G) 48 (nA (fun _ => 0)))]]) 9 432 73 [some (.ref (a_))] [.ref (n_71), .ref (a_)]
  refine V.putF (C := RX3) (T := TX3) (N := 10) (ref := "GlassSpill$View") (ws' := (bl [[(a_, kO 3 [.ref (n_7), .ref (n_15), .ref (n_23), .ref (n_31), .ref (n_39), .ref (n_47), .ref (n_55), .ref (n_63), .ref (n_71), .int (nI (0))])], [(n_7, kA (gI G) 48 (nA (fun _ => 0)))], [(n_15, kA (gI G) 48 (nA (fun _ => 0)))], [(n_23, kA (gI G) 48 (nA (fun _ => 0)))], [(n_31, kA (gI G) 48 (nA (fun _ => 0)))], [(n_39, kA (gI G) 48 (nA (fun _ => 0)))], [(n_47, kA (gI G) 48 (nA (fun _ => 0)))], [(n_55, kA (gI G) 48 (nA (fun _ => 0)))], [(n_63, kA (gZ G) 48 (nA (fun _ => 0)))], [(n_71, kA (gI G) 48 (nA (fun _ => 0)))]])) E (hinit rfl) 0 3 8 (by decide +kernel) tyX3_ok nmX3 rfl rfl (by decide) (by decide +kernel) rfl rfl rfl rfl rfl (Nat.le_of_ble_eq_true rfl) dX3_init_73 rfl ?_
  refine V.aload_n E dX3_init_76 rfl rfl ?_
  refine V.iconst (v := nI (0)) E dX3_init_77 (by decide) ?_
  refine V.putf (C := RX3) (T := TX3) (N := 10) (ref := "GlassSpill$View") (ws' := (bl [[(a_, kO 3 [.ref (n_7), .ref (n_15), .ref (n_23), .ref (n_31), .ref (n_39), .ref (n_47), .ref (n_55), .ref (n_63), .ref (n_71), .int (nI (0))])], [(n_7, kA (gI G) 48 (nA (fun _ => 0)))], [(n_15, kA (gI G) 48 (nA (fun _ => 0)))], [(n_23, kA (gI G) 48 (nA (fun _ => 0)))], [(n_31, kA (gI G) 48 (nA (fun _ => 0)))], [(n_39, kA (gI G) 48 (nA (fun _ => 0)))], [(n_47, kA (gI G) 48 (nA (fun _ => 0)))], [(n_55, kA (gI G) 48 (nA (fun _ => 0)))], [(n_63, kA (gZ G) 48 (nA (fun _ => 0)))], [(n_71, kA (gI G) 48 (nA (fun _ => 0)))]])) E 0 3 9 (by decide +kernel) tyX3_ok nmX3 rfl rfl (by decide) (by decide +kernel) rfl rfl rfl rfl (Nat.le_of_ble_eq_true rfl) dX3_init_78 rfl ?_
  exact hend _ _ _ dX3_init_81 ⟨adr [a_, n_7, n_15, n_23, n_31, n_39, n_47, n_55, n_63, n_71], rfl, rfl, rfl⟩
abbrev rm_c_X2_init : Room := { frames := 1, cells := 4, slots := 150, locals := 26 }
theorem hd_X2_init : yX2_init.cls ≠ "java/lang/invoke/MethodHandle" ∧ yX2_init.cls ≠ "java/lang/invoke/VarHandle" ∧ (parseMethodDescriptor yX2_init.desc).map (fun d => d.parameters.length) = some 0 := by decide +kernel
set_option maxRecDepth 100000 in
set_option maxHeartbeats 8000000 in
theorem c_X2_init (G : VC) (a_ : Nat) : Ctr yX2_init wsX2_init rm_c_X2_init G [.ref (a_)] (bl [[(a_, kO 2 [.null, .null, .null, .null, .int (nI (0))])]]) (fun v9_ u9_ => ∃ gg : Nat → Nat, u9_ = (bl [scW G gg sc00]) ∧ v9_ = none ∧ (gg 0 = a_)) := by
  refine Ctr.void (cc := cX2_init) (maxL := 1) (lv0 := [some (.ref (a_))]) (by decide) rfl rfl rfl (Nat.le_of_ble_eq_true rfl) (fun A X E hinit hend => ?_)
  refine V.aload_n E dX2_init_0 rfl rfl ?_
  refine V.objInit E (by decide +kernel) (by decide +kernel) (by decide +kernel) rfl ⟨Nat.le_of_ble_eq_true rfl, Nat.le_of_ble_eq_true rfl⟩ dX2_init_1 ?_
  refine V.aload_n E dX2_init_4 rfl rfl ?_
  refine V.bipush (v := nI (6)) E dX2_init_5 (by decide) ?_
  refine V.newaB (bs := [[(a_, kO 2 [.null, .null, .null, .null, .int (nI (0))])]]) E 0 rfl rfl (by decide +kernel) (by decide) rfl (by decide) ⟨Nat.le_of_ble_eq_true rfl, Nat.le_of_ble_eq_true rfl⟩ dX2_init_7 (fun n_7 => ?_)
  show V G A X rm_c_X2_init (bl [[(a_, kO 2 [.null, .null, .null, .null, .int (nI (0))])], [(n_7, kA (gI G) 6 (nA (fun _ => 0)))]]) 1 6 9 [some (.ref (a_))] [.ref (n_7), .ref (a_)]
  refine V.putF (C := RX2) (T := TX2) (N := 5) (ref := "GlassSpill$Scene") (ws' := (bl [[(a_, kO 2 [.ref (n_7), .null, .null, .null, .int (nI (0))])], [(n_7, kA (gI G) 6 (nA (fun _ => 0)))]])) E (hinit rfl) 0 2 0 (by decide +kernel) tyX2_ok nmX2 rfl rfl (by decide) (by decide +kernel) rfl rfl rfl rfl rfl (Nat.le_of_ble_eq_true rfl) dX2_init_9 rfl ?_
  refine V.aload_n E dX2_init_12 rfl rfl ?_
  refine V.bipush (v := nI (48)) E dX2_init_13 (by decide) ?_
  refine V.newaB (bs := [[(a_, kO 2 [.ref (n_7), .null, .null, .null, .int (nI (0))])], [(n_7, kA (gI G) 6 (nA (fun _ => 0)))]]) E 0 rfl rfl (by decide +kernel) (by decide) rfl (by decide) ⟨Nat.le_of_ble_eq_true rfl, Nat.le_of_ble_eq_true rfl⟩ dX2_init_15 (fun n_15 => ?_)
  show V G A X rm_c_X2_init (bl [[(a_, kO 2 [.ref (n_7), .null, .null, .null, .int (nI (0))])], [(n_7, kA (gI G) 6 (nA (fun _ => 0)))], [(n_15, kA (gI G) 48 (nA (fun _ => 0)))]]) 2 54 17 [some (.ref (a_))] [.ref (n_15), .ref (a_)]
  refine V.putF (C := RX2) (T := TX2) (N := 5) (ref := "GlassSpill$Scene") (ws' := (bl [[(a_, kO 2 [.ref (n_7), .ref (n_15), .null, .null, .int (nI (0))])], [(n_7, kA (gI G) 6 (nA (fun _ => 0)))], [(n_15, kA (gI G) 48 (nA (fun _ => 0)))]])) E (hinit rfl) 0 2 1 (by decide +kernel) tyX2_ok nmX2 rfl rfl (by decide) (by decide +kernel) rfl rfl rfl rfl rfl (Nat.le_of_ble_eq_true rfl) dX2_init_17 rfl ?_
  refine V.aload_n E dX2_init_20 rfl rfl ?_
  refine V.bipush (v := nI (48)) E dX2_init_21 (by decide) ?_
  refine V.newaB (bs := [[(a_, kO 2 [.ref (n_7), .ref (n_15), .null, .null, .int (nI (0))])], [(n_7, kA (gI G) 6 (nA (fun _ => 0)))], [(n_15, kA (gI G) 48 (nA (fun _ => 0)))]]) E 0 rfl rfl (by decide +kernel) (by decide) rfl (by decide) ⟨Nat.le_of_ble_eq_true rfl, Nat.le_of_ble_eq_true rfl⟩ dX2_init_23 (fun n_23 => ?_)
  show V G A X rm_c_X2_init (bl [[(a_, kO 2 [.ref (n_7), .ref (n_15), .null, .null, .int (nI (0))])], [(n_7, kA (gI G) 6 (nA (fun _ => 0)))], [(n_15, kA (gI G) 48 (nA (fun _ => 0)))], [(n_23, kA (gI G) 48 (nA (fun _ => 0)))]]) 3 102 25 [some (.ref (a_))] [.ref (n_23), .ref (a_)]
  refine V.putF (C := RX2) (T := TX2) (N := 5) (ref := "GlassSpill$Scene") (ws' := (bl [[(a_, kO 2 [.ref (n_7), .ref (n_15), .ref (n_23), .null, .int (nI (0))])], [(n_7, kA (gI G) 6 (nA (fun _ => 0)))], [(n_15, kA (gI G) 48 (nA (fun _ => 0)))], [(n_23, kA (gI G) 48 (nA (fun _ => 0)))]])) E (hinit rfl) 0 2 2 (by decide +kernel) tyX2_ok nmX2 rfl rfl (by decide) (by decide +kernel) rfl rfl rfl rfl rfl (Nat.le_of_ble_eq_true rfl) dX2_init_25 rfl ?_
  refine V.aload_n E dX2_init_28 rfl rfl ?_
  refine V.bipush (v := nI (48)) E dX2_init_29 (by decide) ?_
  refine V.newaB (bs := [[(a_, kO 2 [.ref (n_7), .ref (n_15), .ref (n_23), .null, .int (nI (0))])], [(n_7, kA (gI G) 6 (nA (fun _ => 0)))], [(n_15, kA (gI G) 48 (nA (fun _ => 0)))], [(n_23, kA (gI G) 48 (nA (fun _ => 0)))]]) E 1 rfl rfl (by decide +kernel) (by decide) rfl (by decide) ⟨Nat.le_of_ble_eq_true rfl, Nat.le_of_ble_eq_true rfl⟩ dX2_init_31 (fun n_31 => ?_)
  show V G A X rm_c_X2_init (bl [[(a_, kO 2 [.ref (n_7), .ref (n_15), .ref (n_23), .null, .int (nI (0))])], [(n_7, kA (gI G) 6 (nA (fun _ => 0)))], [(n_15, kA (gI G) 48 (nA (fun _ => 0)))], [(n_23, kA (gI G) 48 (nA (fun _ => 0)))], [(n_31, kA (gZ G) 48 (nA (fun _ => 0)))]]) 4 150 33 [some (.ref (a_))] [.ref (n_31), .ref (a_)]
  refine V.putF (C := RX2) (T := TX2) (N := 5) (ref := "GlassSpill$Scene") (ws' := (bl [[(a_, kO 2 [.ref (n_7), .ref (n_15), .ref (n_23), .ref (n_31), .int (nI (0))])], [(n_7, kA (gI G) 6 (nA (fun _ => 0)))], [(n_15, kA (gI G) 48 (nA (fun _ => 0)))], [(n_23, kA (gI G) 48 (nA (fun _ => 0)))], [(n_31, kA (gZ G) 48 (nA (fun _ => 0)))]])) E (hinit rfl) 0 2 3 (by decide +kernel) tyX2_ok nmX2 rfl rfl (by decide) (by decide +kernel) rfl rfl rfl rfl rfl (Nat.le_of_ble_eq_true rfl) dX2_init_33 rfl ?_
  refine V.aload_n E dX2_init_36 rfl rfl ?_
  refine V.sipush (v := nI (240)) E dX2_init_37 (by decide) ?_
  refine V.putf (C := RX2) (T := TX2) (N := 5) (ref := "GlassSpill$Scene") (ws' := (bl [[(a_, kO 2 [.ref (n_7), .ref (n_15), .ref (n_23), .ref (n_31), .int (nI (240))])], [(n_7, kA (gI G) 6 (nA (fun _ => 0)))], [(n_15, kA (gI G) 48 (nA (fun _ => 0)))], [(n_23, kA (gI G) 48 (nA (fun _ => 0)))], [(n_31, kA (gZ G) 48 (nA (fun _ => 0)))]])) E 0 2 4 (by decide +kernel) tyX2_ok nmX2 rfl rfl (by decide) (by decide +kernel) rfl rfl rfl rfl (Nat.le_of_ble_eq_true rfl) dX2_init_40 rfl ?_
  refine V.getsN (host := "GlassSpill") E (by decide +kernel) dX2_init_43 ?_
  refine V.iconst (v := nI (0)) E dX2_init_46 (by decide) ?_
  refine V.aload_n E dX2_init_47 rfl rfl ?_
  refine V.getf (C := RX2) (T := TX2) (N := 5) (ref := "GlassSpill$Scene") E 0 2 0 (by decide +kernel) rfl rfl (by decide) (by decide +kernel) rfl rfl dX2_init_48 ?_
  refine V.iconst (v := nI (0)) E dX2_init_51 (by decide) ?_
  refine V.bipush (v := nI (6)) E dX2_init_52 (by decide) ?_
  refine V.copyF (ws' := (bl [[(a_, kO 2 [.ref (n_7), .ref (n_15), .ref (n_23), .ref (n_31), .int (nI (240))])], [(n_7, kA (gI G) 6 (nA fv))], [(n_15, kA (gI G) 48 (nA (fun _ => 0)))], [(n_23, kA (gI G) 48 (nA (fun _ => 0)))], [(n_31, kA (gZ G) 48 (nA (fun _ => 0)))]])) E 1 rfl (by decide +kernel) (by decide +kernel) (by decide +kernel) (by decide +kernel) ⟨Nat.le_of_ble_eq_true rfl, Nat.le_of_ble_eq_true rfl⟩ rfl dX2_init_54 rfl ?_
  exact hend _ _ _ dX2_init_57 ⟨adr [a_, n_7, n_15, n_23, n_31], rfl, rfl, rfl⟩
def mq (l : List Nat) (j : Nat) : Option Nat := l[j]?
theorem mq_0 : (fun _ => none) = mq [] := by funext j; simp [mq]
theorem mq_up {l : List Nat} {v : Nat} : va_up (mq l) l.length (some v) = mq (l ++ [v]) := by
  funext j
  unfold mq va_up
  by_cases h : j = l.length
  · subst h; simp
  · rw [if_neg h]
    show l[j]? = (l ++ [v])[j]?
    rcases Nat.lt_or_ge j l.length with h2 | h2
    · rw [List.getElem?_append_left h2]
    · rw [List.getElem?_eq_none h2, List.getElem?_eq_none (by simp; omega)]
abbrev hiW (G : VC) (h : Nat → Nat) (ha : Nat → Nat → Nat) (o n : Nat) : va_W := [(h 0, kO 0 [.ref (h 1), .int (nI o), .int (nI n)]), (h 1, kQ (gS G) 6 (mq [ha 0 0, ha 1 0, ha 2 0, ha 3 0, ha 4 0, ha 5 0]))]
def adf (l : List (Nat → Nat)) (i : Nat) : Nat → Nat := l.getD i z0
abbrev rm_c_X0_init : Room := { frames := 2, cells := 31, slots := 936, locals := 46 }
theorem hd_X0_init : yX0_init.cls ≠ "java/lang/invoke/MethodHandle" ∧ yX0_init.cls ≠ "java/lang/invoke/VarHandle" ∧ (parseMethodDescriptor yX0_init.desc).map (fun d => d.parameters.length) = some 0 := by decide +kernel
set_option maxRecDepth 100000 in
set_option maxHeartbeats 8000000 in
theorem c_X0_init (G : VC) (a_ : Nat) : Ctr yX0_init wsX0_init rm_c_X0_init G [.ref (a_)] (bl [[(a_, kO 0 [.null, .int (nI (0)), .int (nI (0))])]]) (fun v9_ u9_ => ∃ gg : (Nat → Nat) × (Nat → Nat → Nat), u9_ = (bl [hiW G gg.1 gg.2 0 0, scW G (gg.2 0) sc00, scW G (gg.2 1) sc00, scW G (gg.2 2) sc00, scW G (gg.2 3) sc00, scW G (gg.2 4) sc00, scW G (gg.2 5) sc00]) ∧ v9_ = none ∧ (gg.1 0 = a_)) := by
  refine Ctr.void (cc := cX0_init) (maxL := 2) (lv0 := [some (.ref (a_)), none]) (by decide) rfl rfl rfl (Nat.le_of_ble_eq_true rfl) (fun A X E hinit hend => ?_)
  refine V.aload_n E dX0_init_0 rfl rfl ?_
  refine V.objInit E (by decide +kernel) (by decide +kernel) (by decide +kernel) rfl ⟨Nat.le_of_ble_eq_true rfl, Nat.le_of_ble_eq_true rfl⟩ dX0_init_1 ?_
  refine V.aload_n E dX0_init_4 rfl rfl ?_
  refine V.bipush (v := nI (6)) E dX0_init_5 (by decide) ?_
  refine V.newqB (bs := [[(a_, kO 0 [.null, .int (nI (0)), .int (nI (0))])]]) E (by decide +kernel) (by decide) ⟨Nat.le_of_ble_eq_true rfl, Nat.le_of_ble_eq_true rfl⟩ dX0_init_7 (fun n_7 => ?_)
  show V G A X rm_c_X0_init (bl [[(a_, kO 0 [.null, .int (nI (0)), .int (nI (0))])], [(n_7, kQ (gS G) 6 (fun _ => none))]]) 1 6 10 [some (.ref (a_)), none] [.ref (n_7), .ref (a_)]
  refine V.putF (C := RX0) (T := TX0) (N := 3) (ref := "GlassSpill$History") (ws' := (bl [[(a_, kO 0 [.ref (n_7), .int (nI (0)), .int (nI (0))])], [(n_7, kQ (gS G) 6 (fun _ => none))]])) E (hinit rfl) 0 0 0 (by decide +kernel) tyX0_ok nmX0 rfl rfl (by decide) (by decide +kernel) rfl rfl rfl rfl rfl (Nat.le_of_ble_eq_true rfl) dX0_init_10 rfl ?_
  refine V.aload_n E dX0_init_13 rfl rfl ?_
  refine V.iconst (v := nI (0)) E dX0_init_14 (by decide) ?_
  refine V.putf (C := RX0) (T := TX0) (N := 3) (ref := "GlassSpill$History") (ws' := (bl [[(a_, kO 0 [.ref (n_7), .int (nI (0)), .int (nI (0))])], [(n_7, kQ (gS G) 6 (fun _ => none))]])) E 0 0 1 (by decide +kernel) tyX0_ok nmX0 rfl rfl (by decide) (by decide +kernel) rfl rfl rfl rfl (Nat.le_of_ble_eq_true rfl) dX0_init_15 rfl ?_
  refine V.aload_n E dX0_init_18 rfl rfl ?_
  refine V.iconst (v := nI (0)) E dX0_init_19 (by decide) ?_
  refine V.putf (C := RX0) (T := TX0) (N := 3) (ref := "GlassSpill$History") (ws' := (bl [[(a_, kO 0 [.ref (n_7), .int (nI (0)), .int (nI (0))])], [(n_7, kQ (gS G) 6 (fun _ => none))]])) E 0 0 2 (by decide +kernel) tyX0_ok nmX0 rfl rfl (by decide) (by decide +kernel) rfl rfl rfl rfl (Nat.le_of_ble_eq_true rfl) dX0_init_20 rfl ?_
  refine V.iconst (v := nI (0)) E dX0_init_23 (by decide) ?_
  refine V.istore_n (lv' := [some (.ref (a_)), some (.int (nI (0)))]) E dX0_init_24 rfl (Nat.le_of_ble_eq_true rfl) rfl rfl ?_
  refine V.iload_n E dX0_init_25 rfl rfl ?_
  refine V.bipush (v := nI (6)) E dX0_init_26 (by decide) ?_
  refine V.icmp_geN (tgt := 50) E (by omega) (by omega) dX0_init_28 (by decide) (fun q_28 => absurd q_28 (by decide)) (fun q_28 => ?_)
  refine V.aload_n E dX0_init_31 rfl rfl ?_
  refine V.getf (C := RX0) (T := TX0) (N := 3) (ref := "GlassSpill$History") E 0 0 0 (by decide +kernel) rfl rfl (by decide) (by decide +kernel) rfl rfl dX0_init_32 ?_
  refine V.iload_n E dX0_init_35 rfl rfl ?_
  refine V.newB (bs := [[(a_, kO 0 [.ref (n_7), .int (nI (0)), .int (nI (0))])], [(n_7, kQ (gS G) 6 (fun _ => none))]]) (fs := [.null, .null, .null, .null, .int (nI (0))]) E 2 (by decide +kernel) tyX2_ok rfl (by decide +kernel) (by decide +kernel) (by decide +kernel) (by decide) ⟨Nat.le_of_ble_eq_true rfl, Nat.le_of_ble_eq_true rfl⟩ dX0_init_36 (fun n_36 => ?_)
  show V G A X rm_c_X0_init (bl [[(a_, kO 0 [.ref (n_7), .int (nI (0)), .int (nI (0))])], [(n_7, kQ (gS G) 6 (fun _ => none))], [(n_36, kO 2 [.null, .null, .null, .null, .int (nI (0))])]]) 2 11 39 [some (.ref (a_)), some (.int (nI (0)))] [.ref (n_36), .int (nI (0)), .ref (n_7)]
  refine V.dup E dX0_init_39 rfl ?_
  refine V.callI E (c_X2_init G n_36 ) (bl [[(a_, kO 0 [.ref (n_7), .int (nI (0)), .int (nI (0))])], [(n_7, kQ (gS G) 6 (fun _ => none))]]) [.ref (n_36), .int (nI (0)), .ref (n_7)] gX0_init_X2_init rfl (by decide +kernel) (by decide +kernel) (by decide +kernel) rfl hd_X2_init ⟨⟨Nat.le_of_ble_eq_true rfl, Nat.le_of_ble_eq_true rfl⟩, Nat.le_of_ble_eq_true rfl, Nat.le_of_ble_eq_true rfl⟩ rfl (Nat.le_of_ble_eq_true rfl) rfl dX0_init_40 (pBs (n := 3) [[(a_, kO 0 [.ref (n_7), .int (nI (0)), .int (nI (0))])], [(n_7, kQ (gS G) 6 (fun _ => none))], [(n_36, kO 2 [.null, .null, .null, .null, .int (nI (0))])]] [2] [0, 1] rfl (by decide)) (kc' := 6) (ks' := 161) rfl rfl (rxV (ws' := fun (g_40 : Nat → Nat) => (bl [[(a_, kO 0 [.ref (n_7), .int (nI (0)), .int (nI (0))])], [(n_7, kQ (gS G) 6 (fun _ => none))], scW G g_40 sc00])) (fun g_40 => (pBs (n := 3) [[(a_, kO 0 [.ref (n_7), .int (nI (0)), .int (nI (0))])], [(n_7, kQ (gS G) 6 (fun _ => none))], scW G g_40 sc00] [2] [0, 1] rfl (by decide)).symm) (fun g_40 hf_40 => ?_))
  subst hf_40
  refine V.aastN (f' := mq [g_40 0]) (ws' := (bl [[(a_, kO 0 [.ref (n_7), .int (nI (0)), .int (nI (0))])], [(n_7, kQ (gS G) 6 (mq [g_40 0]))], scW G g_40 sc00])) E 1 2 rfl rfl (by omega) (by decide) dX0_init_43 (by rw [mq_0]; exact mq_up) rfl ?_
  refine V.iincN (lv' := [some (.ref (a_)), some (.int (nI (1)))]) E dX0_init_44 rfl (Nat.le_of_ble_eq_true rfl) rfl rfl ?_
  refine V.goto (tgt := 25) E dX0_init_47 (by decide) ?_
  refine V.iload_n E dX0_init_25 rfl rfl ?_
  refine V.bipush (v := nI (6)) E dX0_init_26 (by decide) ?_
  refine V.icmp_geN (tgt := 50) E (by omega) (by omega) dX0_init_28 (by decide) (fun q_28 => absurd q_28 (by decide)) (fun q_28 => ?_)
  refine V.aload_n E dX0_init_31 rfl rfl ?_
  refine V.getf (C := RX0) (T := TX0) (N := 3) (ref := "GlassSpill$History") E 0 0 0 (by decide +kernel) rfl rfl (by decide) (by decide +kernel) rfl rfl dX0_init_32 ?_
  refine V.iload_n E dX0_init_35 rfl rfl ?_
  refine V.newB (bs := [[(a_, kO 0 [.ref (n_7), .int (nI (0)), .int (nI (0))])], [(n_7, kQ (gS G) 6 (mq [g_40 0]))], scW G g_40 sc00]) (fs := [.null, .null, .null, .null, .int (nI (0))]) E 2 (by decide +kernel) tyX2_ok rfl (by decide +kernel) (by decide +kernel) (by decide +kernel) (by decide) ⟨Nat.le_of_ble_eq_true rfl, Nat.le_of_ble_eq_true rfl⟩ dX0_init_36 (fun n_36_1 => ?_)
  show V G A X rm_c_X0_init (bl [[(a_, kO 0 [.ref (n_7), .int (nI (0)), .int (nI (0))])], [(n_7, kQ (gS G) 6 (mq [g_40 0]))], scW G g_40 sc00, [(n_36_1, kO 2 [.null, .null, .null, .null, .int (nI (0))])]]) 7 166 39 [some (.ref (a_)), some (.int (nI (1)))] [.ref (n_36_1), .int (nI (1)), .ref (n_7)]
  refine V.dup E dX0_init_39 rfl ?_
  refine V.callI E (c_X2_init G n_36_1 ) (bl [[(a_, kO 0 [.ref (n_7), .int (nI (0)), .int (nI (0))])], [(n_7, kQ (gS G) 6 (mq [g_40 0]))], scW G g_40 sc00]) [.ref (n_36_1), .int (nI (1)), .ref (n_7)] gX0_init_X2_init rfl (by decide +kernel) (by decide +kernel) (by decide +kernel) rfl hd_X2_init ⟨⟨Nat.le_of_ble_eq_true rfl, Nat.le_of_ble_eq_true rfl⟩, Nat.le_of_ble_eq_true rfl, Nat.le_of_ble_eq_true rfl⟩ rfl (Nat.le_of_ble_eq_true rfl) rfl dX0_init_40 (pBs (n := 4) [[(a_, kO 0 [.ref (n_7), .int (nI (0)), .int (nI (0))])], [(n_7, kQ (gS G) 6 (mq [g_40 0]))], scW G g_40 sc00, [(n_36_1, kO 2 [.null, .null, .null, .null, .int (nI (0))])]] [3] [0, 1, 2] rfl (by decide)) (kc' := 11) (ks' := 316) rfl rfl (rxV (ws' := fun (g_40_1 : Nat → Nat) => (bl [[(a_, kO 0 [.ref (n_7), .int (nI (0)), .int (nI (0))])], [(n_7, kQ (gS G) 6 (mq [g_40 0]))], scW G g_40 sc00, scW G g_40_1 sc00])) (fun g_40_1 => (pBs (n := 4) [[(a_, kO 0 [.ref (n_7), .int (nI (0)), .int (nI (0))])], [(n_7, kQ (gS G) 6 (mq [g_40 0]))], scW G g_40 sc00, scW G g_40_1 sc00] [3] [0, 1, 2] rfl (by decide)).symm) (fun g_40_1 hf_40 => ?_))
  subst hf_40
  refine V.aastN (f' := mq [g_40 0, g_40_1 0]) (ws' := (bl [[(a_, kO 0 [.ref (n_7), .int (nI (0)), .int (nI (0))])], [(n_7, kQ (gS G) 6 (mq [g_40 0, g_40_1 0]))], scW G g_40 sc00, scW G g_40_1 sc00])) E 1 7 rfl rfl (by omega) (by decide) dX0_init_43 (mq_up (l := [g_40 0])) rfl ?_
  refine V.iincN (lv' := [some (.ref (a_)), some (.int (nI (2)))]) E dX0_init_44 rfl (Nat.le_of_ble_eq_true rfl) rfl rfl ?_
  refine V.goto (tgt := 25) E dX0_init_47 (by decide) ?_
  refine V.iload_n E dX0_init_25 rfl rfl ?_
  refine V.bipush (v := nI (6)) E dX0_init_26 (by decide) ?_
  refine V.icmp_geN (tgt := 50) E (by omega) (by omega) dX0_init_28 (by decide) (fun q_28 => absurd q_28 (by decide)) (fun q_28 => ?_)
  refine V.aload_n E dX0_init_31 rfl rfl ?_
  refine V.getf (C := RX0) (T := TX0) (N := 3) (ref := "GlassSpill$History") E 0 0 0 (by decide +kernel) rfl rfl (by decide) (by decide +kernel) rfl rfl dX0_init_32 ?_
  refine V.iload_n E dX0_init_35 rfl rfl ?_
  refine V.newB (bs := [[(a_, kO 0 [.ref (n_7), .int (nI (0)), .int (nI (0))])], [(n_7, kQ (gS G) 6 (mq [g_40 0, g_40_1 0]))], scW G g_40 sc00, scW G g_40_1 sc00]) (fs := [.null, .null, .null, .null, .int (nI (0))]) E 2 (by decide +kernel) tyX2_ok rfl (by decide +kernel) (by decide +kernel) (by decide +kernel) (by decide) ⟨Nat.le_of_ble_eq_true rfl, Nat.le_of_ble_eq_true rfl⟩ dX0_init_36 (fun n_36_2 => ?_)
  show V G A X rm_c_X0_init (bl [[(a_, kO 0 [.ref (n_7), .int (nI (0)), .int (nI (0))])], [(n_7, kQ (gS G) 6 (mq [g_40 0, g_40_1 0]))], scW G g_40 sc00, scW G g_40_1 sc00, [(n_36_2, kO 2 [.null, .null, .null, .null, .int (nI (0))])]]) 12 321 39 [some (.ref (a_)), some (.int (nI (2)))] [.ref (n_36_2), .int (nI (2)), .ref (n_7)]
  refine V.dup E dX0_init_39 rfl ?_
  refine V.callI E (c_X2_init G n_36_2 ) (bl [[(a_, kO 0 [.ref (n_7), .int (nI (0)), .int (nI (0))])], [(n_7, kQ (gS G) 6 (mq [g_40 0, g_40_1 0]))], scW G g_40 sc00, scW G g_40_1 sc00]) [.ref (n_36_2), .int (nI (2)), .ref (n_7)] gX0_init_X2_init rfl (by decide +kernel) (by decide +kernel) (by decide +kernel) rfl hd_X2_init ⟨⟨Nat.le_of_ble_eq_true rfl, Nat.le_of_ble_eq_true rfl⟩, Nat.le_of_ble_eq_true rfl, Nat.le_of_ble_eq_true rfl⟩ rfl (Nat.le_of_ble_eq_true rfl) rfl dX0_init_40 (pBs (n := 5) [[(a_, kO 0 [.ref (n_7), .int (nI (0)), .int (nI (0))])], [(n_7, kQ (gS G) 6 (mq [g_40 0, g_40_1 0]))], scW G g_40 sc00, scW G g_40_1 sc00, [(n_36_2, kO 2 [.null, .null, .null, .null, .int (nI (0))])]] [4] [0, 1, 2, 3] rfl (by decide)) (kc' := 16) (ks' := 471) rfl rfl (rxV (ws' := fun (g_40_2 : Nat → Nat) => (bl [[(a_, kO 0 [.ref (n_7), .int (nI (0)), .int (nI (0))])], [(n_7, kQ (gS G) 6 (mq [g_40 0, g_40_1 0]))], scW G g_40 sc00, scW G g_40_1 sc00, scW G g_40_2 sc00])) (fun g_40_2 => (pBs (n := 5) [[(a_, kO 0 [.ref (n_7), .int (nI (0)), .int (nI (0))])], [(n_7, kQ (gS G) 6 (mq [g_40 0, g_40_1 0]))], scW G g_40 sc00, scW G g_40_1 sc00, scW G g_40_2 sc00] [4] [0, 1, 2, 3] rfl (by decide)).symm) (fun g_40_2 hf_40 => ?_))
  subst hf_40
  refine V.aastN (f' := mq [g_40 0, g_40_1 0, g_40_2 0]) (ws' := (bl [[(a_, kO 0 [.ref (n_7), .int (nI (0)), .int (nI (0))])], [(n_7, kQ (gS G) 6 (mq [g_40 0, g_40_1 0, g_40_2 0]))], scW G g_40 sc00, scW G g_40_1 sc00, scW G g_40_2 sc00])) E 1 12 rfl rfl (by omega) (by decide) dX0_init_43 (mq_up (l := [g_40 0, g_40_1 0])) rfl ?_
  refine V.iincN (lv' := [some (.ref (a_)), some (.int (nI (3)))]) E dX0_init_44 rfl (Nat.le_of_ble_eq_true rfl) rfl rfl ?_
  refine V.goto (tgt := 25) E dX0_init_47 (by decide) ?_
  refine V.iload_n E dX0_init_25 rfl rfl ?_
  refine V.bipush (v := nI (6)) E dX0_init_26 (by decide) ?_
  refine V.icmp_geN (tgt := 50) E (by omega) (by omega) dX0_init_28 (by decide) (fun q_28 => absurd q_28 (by decide)) (fun q_28 => ?_)
  refine V.aload_n E dX0_init_31 rfl rfl ?_
  refine V.getf (C := RX0) (T := TX0) (N := 3) (ref := "GlassSpill$History") E 0 0 0 (by decide +kernel) rfl rfl (by decide) (by decide +kernel) rfl rfl dX0_init_32 ?_
  refine V.iload_n E dX0_init_35 rfl rfl ?_
  refine V.newB (bs := [[(a_, kO 0 [.ref (n_7), .int (nI (0)), .int (nI (0))])], [(n_7, kQ (gS G) 6 (mq [g_40 0, g_40_1 0, g_40_2 0]))], scW G g_40 sc00, scW G g_40_1 sc00, scW G g_40_2 sc00]) (fs := [.null, .null, .null, .null, .int (nI (0))]) E 2 (by decide +kernel) tyX2_ok rfl (by decide +kernel) (by decide +kernel) (by decide +kernel) (by decide) ⟨Nat.le_of_ble_eq_true rfl, Nat.le_of_ble_eq_true rfl⟩ dX0_init_36 (fun n_36_3 => ?_)
  show V G A X rm_c_X0_init (bl [[(a_, kO 0 [.ref (n_7), .int (nI (0)), .int (nI (0))])], [(n_7, kQ (gS G) 6 (mq [g_40 0, g_40_1 0, g_40_2 0]))], scW G g_40 sc00, scW G g_40_1 sc00, scW G g_40_2 sc00, [(n_36_3, kO 2 [.null, .null, .null, .null, .int (nI (0))])]]) 17 476 39 [some (.ref (a_)), some (.int (nI (3)))] [.ref (n_36_3), .int (nI (3)), .ref (n_7)]
  refine V.dup E dX0_init_39 rfl ?_
  refine V.callI E (c_X2_init G n_36_3 ) (bl [[(a_, kO 0 [.ref (n_7), .int (nI (0)), .int (nI (0))])], [(n_7, kQ (gS G) 6 (mq [g_40 0, g_40_1 0, g_40_2 0]))], scW G g_40 sc00, scW G g_40_1 sc00, scW G g_40_2 sc00]) [.ref (n_36_3), .int (nI (3)), .ref (n_7)] gX0_init_X2_init rfl (by decide +kernel) (by decide +kernel) (by decide +kernel) rfl hd_X2_init ⟨⟨Nat.le_of_ble_eq_true rfl, Nat.le_of_ble_eq_true rfl⟩, Nat.le_of_ble_eq_true rfl, Nat.le_of_ble_eq_true rfl⟩ rfl (Nat.le_of_ble_eq_true rfl) rfl dX0_init_40 (pBs (n := 6) [[(a_, kO 0 [.ref (n_7), .int (nI (0)), .int (nI (0))])], [(n_7, kQ (gS G) 6 (mq [g_40 0, g_40_1 0, g_40_2 0]))], scW G g_40 sc00, scW G g_40_1 sc00, scW G g_40_2 sc00, [(n_36_3, kO 2 [.null, .null, .null, .null, .int (nI (0))])]] [5] [0, 1, 2, 3, 4] rfl (by decide)) (kc' := 21) (ks' := 626) rfl rfl (rxV (ws' := fun (g_40_3 : Nat → Nat) => (bl [[(a_, kO 0 [.ref (n_7), .int (nI (0)), .int (nI (0))])], [(n_7, kQ (gS G) 6 (mq [g_40 0, g_40_1 0, g_40_2 0]))], scW G g_40 sc00, scW G g_40_1 sc00, scW G g_40_2 sc00, scW G g_40_3 sc00])) (fun g_40_3 => (pBs (n := 6) [[(a_, kO 0 [.ref (n_7), .int (nI (0)), .int (nI (0))])], [(n_7, kQ (gS G) 6 (mq [g_40 0, g_40_1 0, g_40_2 0]))], scW G g_40 sc00, scW G g_40_1 sc00, scW G g_40_2 sc00, scW G g_40_3 sc00] [5] [0, 1, 2, 3, 4] rfl (by decide)).symm) (fun g_40_3 hf_40 => ?_))
  subst hf_40
  refine V.aastN (f' := mq [g_40 0, g_40_1 0, g_40_2 0, g_40_3 0]) (ws' := (bl [[(a_, kO 0 [.ref (n_7), .int (nI (0)), .int (nI (0))])], [(n_7, kQ (gS G) 6 (mq [g_40 0, g_40_1 0, g_40_2 0, g_40_3 0]))], scW G g_40 sc00, scW G g_40_1 sc00, scW G g_40_2 sc00, scW G g_40_3 sc00])) E 1 17 rfl rfl (by omega) (by decide) dX0_init_43 (mq_up (l := [g_40 0, g_40_1 0, g_40_2 0])) rfl ?_
  refine V.iincN (lv' := [some (.ref (a_)), some (.int (nI (4)))]) E dX0_init_44 rfl (Nat.le_of_ble_eq_true rfl) rfl rfl ?_
  refine V.goto (tgt := 25) E dX0_init_47 (by decide) ?_
  refine V.iload_n E dX0_init_25 rfl rfl ?_
  refine V.bipush (v := nI (6)) E dX0_init_26 (by decide) ?_
  refine V.icmp_geN (tgt := 50) E (by omega) (by omega) dX0_init_28 (by decide) (fun q_28 => absurd q_28 (by decide)) (fun q_28 => ?_)
  refine V.aload_n E dX0_init_31 rfl rfl ?_
  refine V.getf (C := RX0) (T := TX0) (N := 3) (ref := "GlassSpill$History") E 0 0 0 (by decide +kernel) rfl rfl (by decide) (by decide +kernel) rfl rfl dX0_init_32 ?_
  refine V.iload_n E dX0_init_35 rfl rfl ?_
  refine V.newB (bs := [[(a_, kO 0 [.ref (n_7), .int (nI (0)), .int (nI (0))])], [(n_7, kQ (gS G) 6 (mq [g_40 0, g_40_1 0, g_40_2 0, g_40_3 0]))], scW G g_40 sc00, scW G g_40_1 sc00, scW G g_40_2 sc00, scW G g_40_3 sc00]) (fs := [.null, .null, .null, .null, .int (nI (0))]) E 2 (by decide +kernel) tyX2_ok rfl (by decide +kernel) (by decide +kernel) (by decide +kernel) (by decide) ⟨Nat.le_of_ble_eq_true rfl, Nat.le_of_ble_eq_true rfl⟩ dX0_init_36 (fun n_36_4 => ?_)
  show V G A X rm_c_X0_init (bl [[(a_, kO 0 [.ref (n_7), .int (nI (0)), .int (nI (0))])], [(n_7, kQ (gS G) 6 (mq [g_40 0, g_40_1 0, g_40_2 0, g_40_3 0]))], scW G g_40 sc00, scW G g_40_1 sc00, scW G g_40_2 sc00, scW G g_40_3 sc00, [(n_36_4, kO 2 [.null, .null, .null, .null, .int (nI (0))])]]) 22 631 39 [some (.ref (a_)), some (.int (nI (4)))] [.ref (n_36_4), .int (nI (4)), .ref (n_7)]
  refine V.dup E dX0_init_39 rfl ?_
  refine V.callI E (c_X2_init G n_36_4 ) (bl [[(a_, kO 0 [.ref (n_7), .int (nI (0)), .int (nI (0))])], [(n_7, kQ (gS G) 6 (mq [g_40 0, g_40_1 0, g_40_2 0, g_40_3 0]))], scW G g_40 sc00, scW G g_40_1 sc00, scW G g_40_2 sc00, scW G g_40_3 sc00]) [.ref (n_36_4), .int (nI (4)), .ref (n_7)] gX0_init_X2_init rfl (by decide +kernel) (by decide +kernel) (by decide +kernel) rfl hd_X2_init ⟨⟨Nat.le_of_ble_eq_true rfl, Nat.le_of_ble_eq_true rfl⟩, Nat.le_of_ble_eq_true rfl, Nat.le_of_ble_eq_true rfl⟩ rfl (Nat.le_of_ble_eq_true rfl) rfl dX0_init_40 (pBs (n := 7) [[(a_, kO 0 [.ref (n_7), .int (nI (0)), .int (nI (0))])], [(n_7, kQ (gS G) 6 (mq [g_40 0, g_40_1 0, g_40_2 0, g_40_3 0]))], scW G g_40 sc00, scW G g_40_1 sc00, scW G g_40_2 sc00, scW G g_40_3 sc00, [(n_36_4, kO 2 [.null, .null, .null, .null, .int (nI (0))])]] [6] [0, 1, 2, 3, 4, 5] rfl (by decide)) (kc' := 26) (ks' := 781) rfl rfl (rxV (ws' := fun (g_40_4 : Nat → Nat) => (bl [[(a_, kO 0 [.ref (n_7), .int (nI (0)), .int (nI (0))])], [(n_7, kQ (gS G) 6 (mq [g_40 0, g_40_1 0, g_40_2 0, g_40_3 0]))], scW G g_40 sc00, scW G g_40_1 sc00, scW G g_40_2 sc00, scW G g_40_3 sc00, scW G g_40_4 sc00])) (fun g_40_4 => (pBs (n := 7) [[(a_, kO 0 [.ref (n_7), .int (nI (0)), .int (nI (0))])], [(n_7, kQ (gS G) 6 (mq [g_40 0, g_40_1 0, g_40_2 0, g_40_3 0]))], scW G g_40 sc00, scW G g_40_1 sc00, scW G g_40_2 sc00, scW G g_40_3 sc00, scW G g_40_4 sc00] [6] [0, 1, 2, 3, 4, 5] rfl (by decide)).symm) (fun g_40_4 hf_40 => ?_))
  subst hf_40
  refine V.aastN (f' := mq [g_40 0, g_40_1 0, g_40_2 0, g_40_3 0, g_40_4 0]) (ws' := (bl [[(a_, kO 0 [.ref (n_7), .int (nI (0)), .int (nI (0))])], [(n_7, kQ (gS G) 6 (mq [g_40 0, g_40_1 0, g_40_2 0, g_40_3 0, g_40_4 0]))], scW G g_40 sc00, scW G g_40_1 sc00, scW G g_40_2 sc00, scW G g_40_3 sc00, scW G g_40_4 sc00])) E 1 22 rfl rfl (by omega) (by decide) dX0_init_43 (mq_up (l := [g_40 0, g_40_1 0, g_40_2 0, g_40_3 0])) rfl ?_
  refine V.iincN (lv' := [some (.ref (a_)), some (.int (nI (5)))]) E dX0_init_44 rfl (Nat.le_of_ble_eq_true rfl) rfl rfl ?_
  refine V.goto (tgt := 25) E dX0_init_47 (by decide) ?_
  refine V.iload_n E dX0_init_25 rfl rfl ?_
  refine V.bipush (v := nI (6)) E dX0_init_26 (by decide) ?_
  refine V.icmp_geN (tgt := 50) E (by omega) (by omega) dX0_init_28 (by decide) (fun q_28 => absurd q_28 (by decide)) (fun q_28 => ?_)
  refine V.aload_n E dX0_init_31 rfl rfl ?_
  refine V.getf (C := RX0) (T := TX0) (N := 3) (ref := "GlassSpill$History") E 0 0 0 (by decide +kernel) rfl rfl (by decide) (by decide +kernel) rfl rfl dX0_init_32 ?_
  refine V.iload_n E dX0_init_35 rfl rfl ?_
  refine V.newB (bs := [[(a_, kO 0 [.ref (n_7), .int (nI (0)), .int (nI (0))])], [(n_7, kQ (gS G) 6 (mq [g_40 0, g_40_1 0, g_40_2 0, g_40_3 0, g_40_4 0]))], scW G g_40 sc00, scW G g_40_1 sc00, scW G g_40_2 sc00, scW G g_40_3 sc00, scW G g_40_4 sc00]) (fs := [.null, .null, .null, .null, .int (nI (0))]) E 2 (by decide +kernel) tyX2_ok rfl (by decide +kernel) (by decide +kernel) (by decide +kernel) (by decide) ⟨Nat.le_of_ble_eq_true rfl, Nat.le_of_ble_eq_true rfl⟩ dX0_init_36 (fun n_36_5 => ?_)
  show V G A X rm_c_X0_init (bl [[(a_, kO 0 [.ref (n_7), .int (nI (0)), .int (nI (0))])], [(n_7, kQ (gS G) 6 (mq [g_40 0, g_40_1 0, g_40_2 0, g_40_3 0, g_40_4 0]))], scW G g_40 sc00, scW G g_40_1 sc00, scW G g_40_2 sc00, scW G g_40_3 sc00, scW G g_40_4 sc00, [(n_36_5, kO 2 [.null, .null, .null, .null, .int (nI (0))])]]) 27 786 39 [some (.ref (a_)), some (.int (nI (5)))] [.ref (n_36_5), .int (nI (5)), .ref (n_7)]
  refine V.dup E dX0_init_39 rfl ?_
  refine V.callI E (c_X2_init G n_36_5 ) (bl [[(a_, kO 0 [.ref (n_7), .int (nI (0)), .int (nI (0))])], [(n_7, kQ (gS G) 6 (mq [g_40 0, g_40_1 0, g_40_2 0, g_40_3 0, g_40_4 0]))], scW G g_40 sc00, scW G g_40_1 sc00, scW G g_40_2 sc00, scW G g_40_3 sc00, scW G g_40_4 sc00]) [.ref (n_36_5), .int (nI (5)), .ref (n_7)] gX0_init_X2_init rfl (by decide +kernel) (by decide +kernel) (by decide +kernel) rfl hd_X2_init ⟨⟨Nat.le_of_ble_eq_true rfl, Nat.le_of_ble_eq_true rfl⟩, Nat.le_of_ble_eq_true rfl, Nat.le_of_ble_eq_true rfl⟩ rfl (Nat.le_of_ble_eq_true rfl) rfl dX0_init_40 (pBs (n := 8) [[(a_, kO 0 [.ref (n_7), .int (nI (0)), .int (nI (0))])], [(n_7, kQ (gS G) 6 (mq [g_40 0, g_40_1 0, g_40_2 0, g_40_3 0, g_40_4 0]))], scW G g_40 sc00, scW G g_40_1 sc00, scW G g_40_2 sc00, scW G g_40_3 sc00, scW G g_40_4 sc00, [(n_36_5, kO 2 [.null, .null, .null, .null, .int (nI (0))])]] [7] [0, 1, 2, 3, 4, 5, 6] rfl (by decide)) (kc' := 31) (ks' := 936) rfl rfl (rxV (ws' := fun (g_40_5 : Nat → Nat) => (bl [[(a_, kO 0 [.ref (n_7), .int (nI (0)), .int (nI (0))])], [(n_7, kQ (gS G) 6 (mq [g_40 0, g_40_1 0, g_40_2 0, g_40_3 0, g_40_4 0]))], scW G g_40 sc00, scW G g_40_1 sc00, scW G g_40_2 sc00, scW G g_40_3 sc00, scW G g_40_4 sc00, scW G g_40_5 sc00])) (fun g_40_5 => (pBs (n := 8) [[(a_, kO 0 [.ref (n_7), .int (nI (0)), .int (nI (0))])], [(n_7, kQ (gS G) 6 (mq [g_40 0, g_40_1 0, g_40_2 0, g_40_3 0, g_40_4 0]))], scW G g_40 sc00, scW G g_40_1 sc00, scW G g_40_2 sc00, scW G g_40_3 sc00, scW G g_40_4 sc00, scW G g_40_5 sc00] [7] [0, 1, 2, 3, 4, 5, 6] rfl (by decide)).symm) (fun g_40_5 hf_40 => ?_))
  subst hf_40
  refine V.aastN (f' := mq [g_40 0, g_40_1 0, g_40_2 0, g_40_3 0, g_40_4 0, g_40_5 0]) (ws' := (bl [[(a_, kO 0 [.ref (n_7), .int (nI (0)), .int (nI (0))])], [(n_7, kQ (gS G) 6 (mq [g_40 0, g_40_1 0, g_40_2 0, g_40_3 0, g_40_4 0, g_40_5 0]))], scW G g_40 sc00, scW G g_40_1 sc00, scW G g_40_2 sc00, scW G g_40_3 sc00, scW G g_40_4 sc00, scW G g_40_5 sc00])) E 1 27 rfl rfl (by omega) (by decide) dX0_init_43 (mq_up (l := [g_40 0, g_40_1 0, g_40_2 0, g_40_3 0, g_40_4 0])) rfl ?_
  refine V.iincN (lv' := [some (.ref (a_)), some (.int (nI (6)))]) E dX0_init_44 rfl (Nat.le_of_ble_eq_true rfl) rfl rfl ?_
  refine V.goto (tgt := 25) E dX0_init_47 (by decide) ?_
  refine V.iload_n E dX0_init_25 rfl rfl ?_
  refine V.bipush (v := nI (6)) E dX0_init_26 (by decide) ?_
  refine V.icmp_geN (tgt := 50) E (by omega) (by omega) dX0_init_28 (by decide) (fun q_28 => ?_) (fun q_28 => absurd q_28 (by decide))
  exact hend _ _ _ dX0_init_50 ⟨(adr [a_, n_7], adf [g_40, g_40_1, g_40_2, g_40_3, g_40_4, g_40_5]), rfl, rfl, rfl⟩
abbrev AD : Type := Nat → Nat → Nat
abbrev SL : Type := Option ((Nat → Nat) × SC)
/-- the object of the class: ad 0 itself and its slots, ad 1 now, ad 2 trial, ad 3 shown, ad 4 trialView, ad 5 pad, ad 6 history -/
def fq (s0 s1 : Option Nat) (j : Nat) : Option Nat := if j = 0 then s0 else if j = 1 then s1 else none
abbrev gsW (G : VC) (ad : AD) (s0 s1 : Option Nat) : va_W := [(ad 0 0, kO 4 [.ref (ad 1 0), .ref (ad 2 0), .ref (ad 3 0), .ref (ad 4 0), .ref (ad 5 0), .ref (ad 6 0), .ref (ad 0 1)]), (ad 0 1, kQ (gS G) 2 (fq s0 s1))]
theorem fq_n : (fun _ => none) = fq none none := by funext j; unfold fq; split; rfl; split <;> rfl
def sla (s : SL) : Option Nat := s.map (fun p => p.1 0)
def slW (G : VC) (s : SL) : va_W := match s with
  | none => []
  | some p => scW G p.1 p.2
abbrev rm_c_X4_init : Room := { frames := 3, cells := 65, slots := 2185, locals := 67 }
theorem hd_X4_init : yX4_init.cls ≠ "java/lang/invoke/MethodHandle" ∧ yX4_init.cls ≠ "java/lang/invoke/VarHandle" ∧ (parseMethodDescriptor yX4_init.desc).map (fun d => d.parameters.length) = some 0 := by decide +kernel
set_option maxRecDepth 100000 in
set_option maxHeartbeats 8000000 in
theorem c_X4_init (G : VC) (a_ : Nat) : Ctr yX4_init wsX4_init rm_c_X4_init G [.ref (a_)] (bl [[(a_, kO 4 [.null, .null, .null, .null, .null, .null, .null])]]) (fun v9_ u9_ => ∃ gg : AD × AD, u9_ = (bl [gsW G gg.1 none none, scW G (gg.1 1) sc00, scW G (gg.1 2) sc00, vwW G (gg.1 3) z0 z0 z0 z0 z0 z0 z0 z0 z0 0, vwW G (gg.1 4) z0 z0 z0 z0 z0 z0 z0 z0 z0 0, pdW G (gg.1 5) z0 0, hiW G (gg.1 6) gg.2 0 0, scW G (gg.2 0) sc00, scW G (gg.2 1) sc00, scW G (gg.2 2) sc00, scW G (gg.2 3) sc00, scW G (gg.2 4) sc00, scW G (gg.2 5) sc00]) ∧ v9_ = none ∧ (gg.1 0 0 = a_)) := by
  refine Ctr.void (cc := cX4_init) (maxL := 1) (lv0 := [some (.ref (a_))]) (by decide) rfl rfl rfl (Nat.le_of_ble_eq_true rfl) (fun A X E hinit hend => ?_)
  refine V.aload_n E dX4_init_0 rfl rfl ?_
  refine V.objInit E (by decide +kernel) (by decide +kernel) (by decide +kernel) rfl ⟨Nat.le_of_ble_eq_true rfl, Nat.le_of_ble_eq_true rfl⟩ dX4_init_1 ?_
  refine V.aload_n E dX4_init_4 rfl rfl ?_
  refine V.newB (bs := [[(a_, kO 4 [.null, .null, .null, .null, .null, .null, .null])]]) (fs := [.null, .null, .null, .null, .int (nI (0))]) E 2 (by decide +kernel) tyX2_ok rfl (by decide +kernel) (by decide +kernel) (by decide +kernel) (by decide) ⟨Nat.le_of_ble_eq_true rfl, Nat.le_of_ble_eq_true rfl⟩ dX4_init_5 (fun n_5 => ?_)
  show V G A X rm_c_X4_init (bl [[(a_, kO 4 [.null, .null, .null, .null, .null, .null, .null])], [(n_5, kO 2 [.null, .null, .null, .null, .int (nI (0))])]]) 1 5 8 [some (.ref (a_))] [.ref (n_5), .ref (a_)]
  refine V.dup E dX4_init_8 rfl ?_
  refine V.callI E (c_X2_init G n_5 ) (bl [[(a_, kO 4 [.null, .null, .null, .null, .null, .null, .null])]]) [.ref (n_5), .ref (a_)] gX4_init_X2_init rfl (by decide +kernel) (by decide +kernel) (by decide +kernel) rfl hd_X2_init ⟨⟨Nat.le_of_ble_eq_true rfl, Nat.le_of_ble_eq_true rfl⟩, Nat.le_of_ble_eq_true rfl, Nat.le_of_ble_eq_true rfl⟩ rfl (Nat.le_of_ble_eq_true rfl) rfl dX4_init_9 (pBs (n := 2) [[(a_, kO 4 [.null, .null, .null, .null, .null, .null, .null])], [(n_5, kO 2 [.null, .null, .null, .null, .int (nI (0))])]] [1] [0] rfl (by decide)) (kc' := 5) (ks' := 155) rfl rfl (rxV (ws' := fun (g_9 : Nat → Nat) => (bl [[(a_, kO 4 [.null, .null, .null, .null, .null, .null, .null])], scW G g_9 sc00])) (fun g_9 => (pBs (n := 2) [[(a_, kO 4 [.null, .null, .null, .null, .null, .null, .null])], scW G g_9 sc00] [1] [0] rfl (by decide)).symm) (fun g_9 hf_9 => ?_))
  subst hf_9
  refine V.putF (C := RX4) (T := TX4) (N := 7) (ref := "GlassSpill") (ws' := (bl [[(a_, kO 4 [.ref (g_9 0), .null, .null, .null, .null, .null, .null])], scW G g_9 sc00])) E (hinit rfl) 0 4 0 (by decide +kernel) tyX4_ok nmX4 rfl rfl (by decide) (by decide +kernel) rfl rfl rfl rfl rfl (Nat.le_of_ble_eq_true rfl) dX4_init_12 rfl ?_
  refine V.aload_n E dX4_init_15 rfl rfl ?_
  refine V.newB (bs := [[(a_, kO 4 [.ref (g_9 0), .null, .null, .null, .null, .null, .null])], scW G g_9 sc00]) (fs := [.null, .null, .null, .null, .int (nI (0))]) E 2 (by decide +kernel) tyX2_ok rfl (by decide +kernel) (by decide +kernel) (by decide +kernel) (by decide) ⟨Nat.le_of_ble_eq_true rfl, Nat.le_of_ble_eq_true rfl⟩ dX4_init_16 (fun n_16 => ?_)
  show V G A X rm_c_X4_init (bl [[(a_, kO 4 [.ref (g_9 0), .null, .null, .null, .null, .null, .null])], scW G g_9 sc00, [(n_16, kO 2 [.null, .null, .null, .null, .int (nI (0))])]]) 6 160 19 [some (.ref (a_))] [.ref (n_16), .ref (a_)]
  refine V.dup E dX4_init_19 rfl ?_
  refine V.callI E (c_X2_init G n_16 ) (bl [[(a_, kO 4 [.ref (g_9 0), .null, .null, .null, .null, .null, .null])], scW G g_9 sc00]) [.ref (n_16), .ref (a_)] gX4_init_X2_init rfl (by decide +kernel) (by decide +kernel) (by decide +kernel) rfl hd_X2_init ⟨⟨Nat.le_of_ble_eq_true rfl, Nat.le_of_ble_eq_true rfl⟩, Nat.le_of_ble_eq_true rfl, Nat.le_of_ble_eq_true rfl⟩ rfl (Nat.le_of_ble_eq_true rfl) rfl dX4_init_20 (pBs (n := 3) [[(a_, kO 4 [.ref (g_9 0), .null, .null, .null, .null, .null, .null])], scW G g_9 sc00, [(n_16, kO 2 [.null, .null, .null, .null, .int (nI (0))])]] [2] [0, 1] rfl (by decide)) (kc' := 10) (ks' := 310) rfl rfl (rxV (ws' := fun (g_20 : Nat → Nat) => (bl [[(a_, kO 4 [.ref (g_9 0), .null, .null, .null, .null, .null, .null])], scW G g_9 sc00, scW G g_20 sc00])) (fun g_20 => (pBs (n := 3) [[(a_, kO 4 [.ref (g_9 0), .null, .null, .null, .null, .null, .null])], scW G g_9 sc00, scW G g_20 sc00] [2] [0, 1] rfl (by decide)).symm) (fun g_20 hf_20 => ?_))
  subst hf_20
  refine V.putF (C := RX4) (T := TX4) (N := 7) (ref := "GlassSpill") (ws' := (bl [[(a_, kO 4 [.ref (g_9 0), .ref (g_20 0), .null, .null, .null, .null, .null])], scW G g_9 sc00, scW G g_20 sc00])) E (hinit rfl) 0 4 1 (by decide +kernel) tyX4_ok nmX4 rfl rfl (by decide) (by decide +kernel) rfl rfl rfl rfl rfl (Nat.le_of_ble_eq_true rfl) dX4_init_23 rfl ?_
  refine V.aload_n E dX4_init_26 rfl rfl ?_
  refine V.newB (bs := [[(a_, kO 4 [.ref (g_9 0), .ref (g_20 0), .null, .null, .null, .null, .null])], scW G g_9 sc00, scW G g_20 sc00]) (fs := [.null, .null, .null, .null, .null, .null, .null, .null, .null, .int (nI (0))]) E 3 (by decide +kernel) tyX3_ok rfl (by decide +kernel) (by decide +kernel) (by decide +kernel) (by decide) ⟨Nat.le_of_ble_eq_true rfl, Nat.le_of_ble_eq_true rfl⟩ dX4_init_27 (fun n_27 => ?_)
  show V G A X rm_c_X4_init (bl [[(a_, kO 4 [.ref (g_9 0), .ref (g_20 0), .null, .null, .null, .null, .null])], scW G g_9 sc00, scW G g_20 sc00, [(n_27, kO 3 [.null, .null, .null, .null, .null, .null, .null, .null, .null, .int (nI (0))])]]) 11 320 30 [some (.ref (a_))] [.ref (n_27), .ref (a_)]
  refine V.dup E dX4_init_30 rfl ?_
  refine V.callIN (host := "GlassSpill") E (c_X3_init G n_27 ) (bl [[(a_, kO 4 [.ref (g_9 0), .ref (g_20 0), .null, .null, .null, .null, .null])], scW G g_9 sc00, scW G g_20 sc00]) [.ref (n_27), .ref (a_)] gX4_init_X3_init_n21 rfl (by decide +kernel) (by decide +kernel) (by decide +kernel) rfl hd_X3_init ⟨⟨Nat.le_of_ble_eq_true rfl, Nat.le_of_ble_eq_true rfl⟩, Nat.le_of_ble_eq_true rfl, Nat.le_of_ble_eq_true rfl⟩ rfl (Nat.le_of_ble_eq_true rfl) rfl dX4_init_31 (pBs (n := 4) [[(a_, kO 4 [.ref (g_9 0), .ref (g_20 0), .null, .null, .null, .null, .null])], scW G g_9 sc00, scW G g_20 sc00, [(n_27, kO 3 [.null, .null, .null, .null, .null, .null, .null, .null, .null, .int (nI (0))])]] [3] [0, 1, 2] rfl (by decide)) (kc' := 20) (ks' := 752) rfl rfl (rxV (ws' := fun (g_31 : Nat → Nat) => (bl [[(a_, kO 4 [.ref (g_9 0), .ref (g_20 0), .null, .null, .null, .null, .null])], scW G g_9 sc00, scW G g_20 sc00, vwW G g_31 z0 z0 z0 z0 z0 z0 z0 z0 z0 0])) (fun g_31 => (pBs (n := 4) [[(a_, kO 4 [.ref (g_9 0), .ref (g_20 0), .null, .null, .null, .null, .null])], scW G g_9 sc00, scW G g_20 sc00, vwW G g_31 z0 z0 z0 z0 z0 z0 z0 z0 z0 0] [3] [0, 1, 2] rfl (by decide)).symm) (fun g_31 hf_31 => ?_))
  subst hf_31
  refine V.putF (C := RX4) (T := TX4) (N := 7) (ref := "GlassSpill") (ws' := (bl [[(a_, kO 4 [.ref (g_9 0), .ref (g_20 0), .ref (g_31 0), .null, .null, .null, .null])], scW G g_9 sc00, scW G g_20 sc00, vwW G g_31 z0 z0 z0 z0 z0 z0 z0 z0 z0 0])) E (hinit rfl) 0 4 2 (by decide +kernel) tyX4_ok nmX4 rfl rfl (by decide) (by decide +kernel) rfl rfl rfl rfl rfl (Nat.le_of_ble_eq_true rfl) dX4_init_34 rfl ?_
  refine V.aload_n E dX4_init_37 rfl rfl ?_
  refine V.newB (bs := [[(a_, kO 4 [.ref (g_9 0), .ref (g_20 0), .ref (g_31 0), .null, .null, .null, .null])], scW G g_9 sc00, scW G g_20 sc00, vwW G g_31 z0 z0 z0 z0 z0 z0 z0 z0 z0 0]) (fs := [.null, .null, .null, .null, .null, .null, .null, .null, .null, .int (nI (0))]) E 3 (by decide +kernel) tyX3_ok rfl (by decide +kernel) (by decide +kernel) (by decide +kernel) (by decide) ⟨Nat.le_of_ble_eq_true rfl, Nat.le_of_ble_eq_true rfl⟩ dX4_init_38 (fun n_38 => ?_)
  show V G A X rm_c_X4_init (bl [[(a_, kO 4 [.ref (g_9 0), .ref (g_20 0), .ref (g_31 0), .null, .null, .null, .null])], scW G g_9 sc00, scW G g_20 sc00, vwW G g_31 z0 z0 z0 z0 z0 z0 z0 z0 z0 0, [(n_38, kO 3 [.null, .null, .null, .null, .null, .null, .null, .null, .null, .int (nI (0))])]]) 21 762 41 [some (.ref (a_))] [.ref (n_38), .ref (a_)]
  refine V.dup E dX4_init_41 rfl ?_
  refine V.callIN (host := "GlassSpill") E (c_X3_init G n_38 ) (bl [[(a_, kO 4 [.ref (g_9 0), .ref (g_20 0), .ref (g_31 0), .null, .null, .null, .null])], scW G g_9 sc00, scW G g_20 sc00, vwW G g_31 z0 z0 z0 z0 z0 z0 z0 z0 z0 0]) [.ref (n_38), .ref (a_)] gX4_init_X3_init_n21 rfl (by decide +kernel) (by decide +kernel) (by decide +kernel) rfl hd_X3_init ⟨⟨Nat.le_of_ble_eq_true rfl, Nat.le_of_ble_eq_true rfl⟩, Nat.le_of_ble_eq_true rfl, Nat.le_of_ble_eq_true rfl⟩ rfl (Nat.le_of_ble_eq_true rfl) rfl dX4_init_42 (pBs (n := 5) [[(a_, kO 4 [.ref (g_9 0), .ref (g_20 0), .ref (g_31 0), .null, .null, .null, .null])], scW G g_9 sc00, scW G g_20 sc00, vwW G g_31 z0 z0 z0 z0 z0 z0 z0 z0 z0 0, [(n_38, kO 3 [.null, .null, .null, .null, .null, .null, .null, .null, .null, .int (nI (0))])]] [4] [0, 1, 2, 3] rfl (by decide)) (kc' := 30) (ks' := 1194) rfl rfl (rxV (ws' := fun (g_42 : Nat → Nat) => (bl [[(a_, kO 4 [.ref (g_9 0), .ref (g_20 0), .ref (g_31 0), .null, .null, .null, .null])], scW G g_9 sc00, scW G g_20 sc00, vwW G g_31 z0 z0 z0 z0 z0 z0 z0 z0 z0 0, vwW G g_42 z0 z0 z0 z0 z0 z0 z0 z0 z0 0])) (fun g_42 => (pBs (n := 5) [[(a_, kO 4 [.ref (g_9 0), .ref (g_20 0), .ref (g_31 0), .null, .null, .null, .null])], scW G g_9 sc00, scW G g_20 sc00, vwW G g_31 z0 z0 z0 z0 z0 z0 z0 z0 z0 0, vwW G g_42 z0 z0 z0 z0 z0 z0 z0 z0 z0 0] [4] [0, 1, 2, 3] rfl (by decide)).symm) (fun g_42 hf_42 => ?_))
  subst hf_42
  refine V.putF (C := RX4) (T := TX4) (N := 7) (ref := "GlassSpill") (ws' := (bl [[(a_, kO 4 [.ref (g_9 0), .ref (g_20 0), .ref (g_31 0), .ref (g_42 0), .null, .null, .null])], scW G g_9 sc00, scW G g_20 sc00, vwW G g_31 z0 z0 z0 z0 z0 z0 z0 z0 z0 0, vwW G g_42 z0 z0 z0 z0 z0 z0 z0 z0 z0 0])) E (hinit rfl) 0 4 3 (by decide +kernel) tyX4_ok nmX4 rfl rfl (by decide) (by decide +kernel) rfl rfl rfl rfl rfl (Nat.le_of_ble_eq_true rfl) dX4_init_45 rfl ?_
  refine V.aload_n E dX4_init_48 rfl rfl ?_
  refine V.newB (bs := [[(a_, kO 4 [.ref (g_9 0), .ref (g_20 0), .ref (g_31 0), .ref (g_42 0), .null, .null, .null])], scW G g_9 sc00, scW G g_20 sc00, vwW G g_31 z0 z0 z0 z0 z0 z0 z0 z0 z0 0, vwW G g_42 z0 z0 z0 z0 z0 z0 z0 z0 z0 0]) (fs := [.null, .int (nI (0))]) E 1 (by decide +kernel) tyX1_ok rfl (by decide +kernel) (by decide +kernel) (by decide +kernel) (by decide) ⟨Nat.le_of_ble_eq_true rfl, Nat.le_of_ble_eq_true rfl⟩ dX4_init_49 (fun n_49 => ?_)
  show V G A X rm_c_X4_init (bl [[(a_, kO 4 [.ref (g_9 0), .ref (g_20 0), .ref (g_31 0), .ref (g_42 0), .null, .null, .null])], scW G g_9 sc00, scW G g_20 sc00, vwW G g_31 z0 z0 z0 z0 z0 z0 z0 z0 z0 0, vwW G g_42 z0 z0 z0 z0 z0 z0 z0 z0 z0 0, [(n_49, kO 1 [.null, .int (nI (0))])]]) 31 1196 52 [some (.ref (a_))] [.ref (n_49), .ref (a_)]
  refine V.dup E dX4_init_52 rfl ?_
  refine V.callIN (host := "GlassSpill") E (c_X1_init G n_49 ) (bl [[(a_, kO 4 [.ref (g_9 0), .ref (g_20 0), .ref (g_31 0), .ref (g_42 0), .null, .null, .null])], scW G g_9 sc00, scW G g_20 sc00, vwW G g_31 z0 z0 z0 z0 z0 z0 z0 z0 z0 0, vwW G g_42 z0 z0 z0 z0 z0 z0 z0 z0 z0 0]) [.ref (n_49), .ref (a_)] gX4_init_X1_init_n31 rfl (by decide +kernel) (by decide +kernel) (by decide +kernel) rfl hd_X1_init ⟨⟨Nat.le_of_ble_eq_true rfl, Nat.le_of_ble_eq_true rfl⟩, Nat.le_of_ble_eq_true rfl, Nat.le_of_ble_eq_true rfl⟩ rfl (Nat.le_of_ble_eq_true rfl) rfl dX4_init_53 (pBs (n := 6) [[(a_, kO 4 [.ref (g_9 0), .ref (g_20 0), .ref (g_31 0), .ref (g_42 0), .null, .null, .null])], scW G g_9 sc00, scW G g_20 sc00, vwW G g_31 z0 z0 z0 z0 z0 z0 z0 z0 z0 0, vwW G g_42 z0 z0 z0 z0 z0 z0 z0 z0 z0 0, [(n_49, kO 1 [.null, .int (nI (0))])]] [5] [0, 1, 2, 3, 4] rfl (by decide)) (kc' := 32) (ks' := 1244) rfl rfl (rxV (ws' := fun (g_53 : Nat → Nat) => (bl [[(a_, kO 4 [.ref (g_9 0), .ref (g_20 0), .ref (g_31 0), .ref (g_42 0), .null, .null, .null])], scW G g_9 sc00, scW G g_20 sc00, vwW G g_31 z0 z0 z0 z0 z0 z0 z0 z0 z0 0, vwW G g_42 z0 z0 z0 z0 z0 z0 z0 z0 z0 0, pdW G g_53 z0 0])) (fun g_53 => (pBs (n := 6) [[(a_, kO 4 [.ref (g_9 0), .ref (g_20 0), .ref (g_31 0), .ref (g_42 0), .null, .null, .null])], scW G g_9 sc00, scW G g_20 sc00, vwW G g_31 z0 z0 z0 z0 z0 z0 z0 z0 z0 0, vwW G g_42 z0 z0 z0 z0 z0 z0 z0 z0 z0 0, pdW G g_53 z0 0] [5] [0, 1, 2, 3, 4] rfl (by decide)).symm) (fun g_53 hf_53 => ?_))
  subst hf_53
  refine V.putF (C := RX4) (T := TX4) (N := 7) (ref := "GlassSpill") (ws' := (bl [[(a_, kO 4 [.ref (g_9 0), .ref (g_20 0), .ref (g_31 0), .ref (g_42 0), .ref (g_53 0), .null, .null])], scW G g_9 sc00, scW G g_20 sc00, vwW G g_31 z0 z0 z0 z0 z0 z0 z0 z0 z0 0, vwW G g_42 z0 z0 z0 z0 z0 z0 z0 z0 z0 0, pdW G g_53 z0 0])) E (hinit rfl) 0 4 4 (by decide +kernel) tyX4_ok nmX4 rfl rfl (by decide) (by decide +kernel) rfl rfl rfl rfl rfl (Nat.le_of_ble_eq_true rfl) dX4_init_56 rfl ?_
  refine V.aload_n E dX4_init_59 rfl rfl ?_
  refine V.newB (bs := [[(a_, kO 4 [.ref (g_9 0), .ref (g_20 0), .ref (g_31 0), .ref (g_42 0), .ref (g_53 0), .null, .null])], scW G g_9 sc00, scW G g_20 sc00, vwW G g_31 z0 z0 z0 z0 z0 z0 z0 z0 z0 0, vwW G g_42 z0 z0 z0 z0 z0 z0 z0 z0 z0 0, pdW G g_53 z0 0]) (fs := [.null, .int (nI (0)), .int (nI (0))]) E 0 (by decide +kernel) tyX0_ok rfl (by decide +kernel) (by decide +kernel) (by decide +kernel) (by decide) ⟨Nat.le_of_ble_eq_true rfl, Nat.le_of_ble_eq_true rfl⟩ dX4_init_60 (fun n_60 => ?_)
  show V G A X rm_c_X4_init (bl [[(a_, kO 4 [.ref (g_9 0), .ref (g_20 0), .ref (g_31 0), .ref (g_42 0), .ref (g_53 0), .null, .null])], scW G g_9 sc00, scW G g_20 sc00, vwW G g_31 z0 z0 z0 z0 z0 z0 z0 z0 z0 0, vwW G g_42 z0 z0 z0 z0 z0 z0 z0 z0 z0 0, pdW G g_53 z0 0, [(n_60, kO 0 [.null, .int (nI (0)), .int (nI (0))])]]) 33 1247 63 [some (.ref (a_))] [.ref (n_60), .ref (a_)]
  refine V.dup E dX4_init_63 rfl ?_
  refine V.callI E (c_X0_init G n_60 ) (bl [[(a_, kO 4 [.ref (g_9 0), .ref (g_20 0), .ref (g_31 0), .ref (g_42 0), .ref (g_53 0), .null, .null])], scW G g_9 sc00, scW G g_20 sc00, vwW G g_31 z0 z0 z0 z0 z0 z0 z0 z0 z0 0, vwW G g_42 z0 z0 z0 z0 z0 z0 z0 z0 z0 0, pdW G g_53 z0 0]) [.ref (n_60), .ref (a_)] gX4_init_X0_init rfl (by decide +kernel) (by decide +kernel) (by decide +kernel) rfl hd_X0_init ⟨⟨Nat.le_of_ble_eq_true rfl, Nat.le_of_ble_eq_true rfl⟩, Nat.le_of_ble_eq_true rfl, Nat.le_of_ble_eq_true rfl⟩ rfl (Nat.le_of_ble_eq_true rfl) rfl dX4_init_64 (pBs (n := 7) [[(a_, kO 4 [.ref (g_9 0), .ref (g_20 0), .ref (g_31 0), .ref (g_42 0), .ref (g_53 0), .null, .null])], scW G g_9 sc00, scW G g_20 sc00, vwW G g_31 z0 z0 z0 z0 z0 z0 z0 z0 z0 0, vwW G g_42 z0 z0 z0 z0 z0 z0 z0 z0 z0 0, pdW G g_53 z0 0, [(n_60, kO 0 [.null, .int (nI (0)), .int (nI (0))])]] [6] [0, 1, 2, 3, 4, 5] rfl (by decide)) (kc' := 64) (ks' := 2183) rfl rfl (rxV (ws' := fun (g_64 : (Nat → Nat) × (Nat → Nat → Nat)) => (bl [[(a_, kO 4 [.ref (g_9 0), .ref (g_20 0), .ref (g_31 0), .ref (g_42 0), .ref (g_53 0), .null, .null])], scW G g_9 sc00, scW G g_20 sc00, vwW G g_31 z0 z0 z0 z0 z0 z0 z0 z0 z0 0, vwW G g_42 z0 z0 z0 z0 z0 z0 z0 z0 z0 0, pdW G g_53 z0 0, hiW G g_64.1 g_64.2 0 0, scW G (g_64.2 0) sc00, scW G (g_64.2 1) sc00, scW G (g_64.2 2) sc00, scW G (g_64.2 3) sc00, scW G (g_64.2 4) sc00, scW G (g_64.2 5) sc00])) (fun g_64 => (pBs (n := 13) [[(a_, kO 4 [.ref (g_9 0), .ref (g_20 0), .ref (g_31 0), .ref (g_42 0), .ref (g_53 0), .null, .null])], scW G g_9 sc00, scW G g_20 sc00, vwW G g_31 z0 z0 z0 z0 z0 z0 z0 z0 z0 0, vwW G g_42 z0 z0 z0 z0 z0 z0 z0 z0 z0 0, pdW G g_53 z0 0, hiW G g_64.1 g_64.2 0 0, scW G (g_64.2 0) sc00, scW G (g_64.2 1) sc00, scW G (g_64.2 2) sc00, scW G (g_64.2 3) sc00, scW G (g_64.2 4) sc00, scW G (g_64.2 5) sc00] [6, 7, 8, 9, 10, 11, 12] [0, 1, 2, 3, 4, 5] rfl (by decide)).symm) (fun g_64 hf_64 => ?_))
  subst hf_64
  refine V.putF (C := RX4) (T := TX4) (N := 7) (ref := "GlassSpill") (ws' := (bl [[(a_, kO 4 [.ref (g_9 0), .ref (g_20 0), .ref (g_31 0), .ref (g_42 0), .ref (g_53 0), .ref (g_64.1 0), .null])], scW G g_9 sc00, scW G g_20 sc00, vwW G g_31 z0 z0 z0 z0 z0 z0 z0 z0 z0 0, vwW G g_42 z0 z0 z0 z0 z0 z0 z0 z0 z0 0, pdW G g_53 z0 0, hiW G g_64.1 g_64.2 0 0, scW G (g_64.2 0) sc00, scW G (g_64.2 1) sc00, scW G (g_64.2 2) sc00, scW G (g_64.2 3) sc00, scW G (g_64.2 4) sc00, scW G (g_64.2 5) sc00])) E (hinit rfl) 0 4 5 (by decide +kernel) tyX4_ok nmX4 rfl rfl (by decide) (by decide +kernel) rfl rfl rfl rfl rfl (Nat.le_of_ble_eq_true rfl) dX4_init_67 rfl ?_
  refine V.aload_n E dX4_init_70 rfl rfl ?_
  refine V.iconst (v := nI (2)) E dX4_init_71 (by decide) ?_
  refine V.newqB (bs := [[(a_, kO 4 [.ref (g_9 0), .ref (g_20 0), .ref (g_31 0), .ref (g_42 0), .ref (g_53 0), .ref (g_64.1 0), .null])], scW G g_9 sc00, scW G g_20 sc00, vwW G g_31 z0 z0 z0 z0 z0 z0 z0 z0 z0 0, vwW G g_42 z0 z0 z0 z0 z0 z0 z0 z0 z0 0, pdW G g_53 z0 0, hiW G g_64.1 g_64.2 0 0, scW G (g_64.2 0) sc00, scW G (g_64.2 1) sc00, scW G (g_64.2 2) sc00, scW G (g_64.2 3) sc00, scW G (g_64.2 4) sc00, scW G (g_64.2 5) sc00]) E (by decide +kernel) (by decide) ⟨Nat.le_of_ble_eq_true rfl, Nat.le_of_ble_eq_true rfl⟩ dX4_init_72 (fun n_72 => ?_)
  show V G A X rm_c_X4_init (bl [[(a_, kO 4 [.ref (g_9 0), .ref (g_20 0), .ref (g_31 0), .ref (g_42 0), .ref (g_53 0), .ref (g_64.1 0), .null])], scW G g_9 sc00, scW G g_20 sc00, vwW G g_31 z0 z0 z0 z0 z0 z0 z0 z0 z0 0, vwW G g_42 z0 z0 z0 z0 z0 z0 z0 z0 z0 0, pdW G g_53 z0 0, hiW G g_64.1 g_64.2 0 0, scW G (g_64.2 0) sc00, scW G (g_64.2 1) sc00, scW G (g_64.2 2) sc00, scW G (g_64.2 3) sc00, scW G (g_64.2 4) sc00, scW G (g_64.2 5) sc00, [(n_72, kQ (gS G) 2 (fun _ => none))]]) 65 2185 75 [some (.ref (a_))] [.ref (n_72), .ref (a_)]
  refine V.putF (C := RX4) (T := TX4) (N := 7) (ref := "GlassSpill") (ws' := (bl [[(a_, kO 4 [.ref (g_9 0), .ref (g_20 0), .ref (g_31 0), .ref (g_42 0), .ref (g_53 0), .ref (g_64.1 0), .ref (n_72)])], scW G g_9 sc00, scW G g_20 sc00, vwW G g_31 z0 z0 z0 z0 z0 z0 z0 z0 z0 0, vwW G g_42 z0 z0 z0 z0 z0 z0 z0 z0 z0 0, pdW G g_53 z0 0, hiW G g_64.1 g_64.2 0 0, scW G (g_64.2 0) sc00, scW G (g_64.2 1) sc00, scW G (g_64.2 2) sc00, scW G (g_64.2 3) sc00, scW G (g_64.2 4) sc00, scW G (g_64.2 5) sc00, [(n_72, kQ (gS G) 2 (fun _ => none))]])) E (hinit rfl) 0 4 6 (by decide +kernel) tyX4_ok nmX4 rfl rfl (by decide) (by decide +kernel) rfl rfl rfl rfl rfl (Nat.le_of_ble_eq_true rfl) dX4_init_75 rfl ?_
  rw [fq_n]
  refine V.perm (ws' := (bl [[(a_, kO 4 [.ref (g_9 0), .ref (g_20 0), .ref (g_31 0), .ref (g_42 0), .ref (g_53 0), .ref (g_64.1 0), .ref (n_72)])], [(n_72, kQ (gS G) 2 (fq none none))], scW G g_9 sc00, scW G g_20 sc00, vwW G g_31 z0 z0 z0 z0 z0 z0 z0 z0 z0 0, vwW G g_42 z0 z0 z0 z0 z0 z0 z0 z0 z0 0, pdW G g_53 z0 0, hiW G g_64.1 g_64.2 0 0, scW G (g_64.2 0) sc00, scW G (g_64.2 1) sc00, scW G (g_64.2 2) sc00, scW G (g_64.2 3) sc00, scW G (g_64.2 4) sc00, scW G (g_64.2 5) sc00])) (pBo (n := 14) [[(a_, kO 4 [.ref (g_9 0), .ref (g_20 0), .ref (g_31 0), .ref (g_42 0), .ref (g_53 0), .ref (g_64.1 0), .ref (n_72)])], scW G g_9 sc00, scW G g_20 sc00, vwW G g_31 z0 z0 z0 z0 z0 z0 z0 z0 z0 0, vwW G g_42 z0 z0 z0 z0 z0 z0 z0 z0 z0 0, pdW G g_53 z0 0, hiW G g_64.1 g_64.2 0 0, scW G (g_64.2 0) sc00, scW G (g_64.2 1) sc00, scW G (g_64.2 2) sc00, scW G (g_64.2 3) sc00, scW G (g_64.2 4) sc00, scW G (g_64.2 5) sc00, [(n_72, kQ (gS G) 2 (fq none none))]] [0, 13, 1, 2, 3, 4, 5, 6, 7, 8, 9, 10, 11, 12] rfl (by decide)) ?_
  exact hend _ _ _ dX4_init_78 ⟨(adf [adr [a_, n_72], g_9, g_20, g_31, g_42, g_53, g_64.1], g_64.2), rfl, rfl, rfl⟩
