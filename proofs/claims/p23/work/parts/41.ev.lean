/-! what the Statement gives at the law's entry -/
set_option maxRecDepth 20000 in
theorem nW_in : ∀ w ∈ nWords, w ∈ lw_tbl := lw_memBy _ [66, 110, 392, 299, 191, 194, 244, 247, 217, 225, 224, 256, 257, 31] (by decide +kernel)
theorem lw_ty {s : State} {ty : FieldType} {A : Array Value} (h : (Cond.arrayClass ty).before A s = true) (ho : ∀ C, ty ≠ .object C) : ∃ c : ClassId, ArrOfT s c ty ∧ va_RA s c ty := by
  obtain ⟨c, k, comp, h1, h2, h3⟩ := Cond.arrayClass_spec h
  refine ⟨c, fun n z => ⟨(fun k h => by cases h), k, h2, comp, h3⟩, ?_⟩
  cases ty with
  | object C => exact absurd rfl (ho C)
  | _ => exact h1
theorem lw_tyO {s : State} {C : String} {A : Array Value} (h : (Cond.arrayOver (.object C)).before A s = true) : ∃ c : ClassId, ArrOfT s c (.object C) ∧ va_RA s c (.object C) := by
  obtain ⟨comp, c, k, h1, h2, h3, h4, h5⟩ := Cond.arrayOver_spec h
  exact ⟨c, fun n z => ⟨(fun k h => by cases h), k, h3, comp, h4⟩, k, comp, h3, h4, h1, h5⟩
set_option maxRecDepth 20000 in
theorem lw_Tfv {s : State} {b : Nat} (hgv : (Jvm.Cond.and given_1 narrow_1).before #[Value.ref b] s = true) {A : Nat → Prop} (hA : ∀ a : Nat, a < s.heap.size → ¬ A a) : ∃ t : Nat, (Term.static "GlassSpill" "FIRST_VALUES" "[I").eval #[Value.ref b] s none [] s = some (.ref t) ∧ va_T .int t 6 (fun j => .int (nI (fv j))) A s s.heap := by
  have hs := flat_of_before _ hgv
  refine va_Tof (by decide) (hs (Cond.arrayOf (.static "GlassSpill" "FIRST_VALUES" "[I") .int) (by decide +kernel)) (va_eqt (z := 6) (hs (Cond.eq (.length (.static "GlassSpill" "FIRST_VALUES" "[I")) (.int 6)) (by decide +kernel))) (fun j hj => ?_) hA
  rcases (show j = 0 ∨ j = 1 ∨ j = 2 ∨ j = 3 ∨ j = 4 ∨ j = 5 by omega) with rfl | rfl | rfl | rfl | rfl | rfl
  · exact va_eqt (z := 6) (hs (Cond.eq (.elem (.static "GlassSpill" "FIRST_VALUES" "[I") (.int 0)) (.int 6)) (by decide +kernel))
  · exact va_eqt (z := 18) (hs (Cond.eq (.elem (.static "GlassSpill" "FIRST_VALUES" "[I") (.int 1)) (.int 18)) (by decide +kernel))
  · exact va_eqt (z := 16) (hs (Cond.eq (.elem (.static "GlassSpill" "FIRST_VALUES" "[I") (.int 2)) (.int 16)) (by decide +kernel))
  · exact va_eqt (z := 8) (hs (Cond.eq (.elem (.static "GlassSpill" "FIRST_VALUES" "[I") (.int 3)) (.int 8)) (by decide +kernel))
  · exact va_eqt (z := 4) (hs (Cond.eq (.elem (.static "GlassSpill" "FIRST_VALUES" "[I") (.int 4)) (.int 4)) (by decide +kernel))
  · exact va_eqt (z := 0) (hs (Cond.eq (.elem (.static "GlassSpill" "FIRST_VALUES" "[I") (.int 5)) (.int 0)) (by decide +kernel))
set_option maxRecDepth 20000 in
theorem lw_Thv {s : State} {b : Nat} (hgv : (Jvm.Cond.and given_1 narrow_1).before #[Value.ref b] s = true) {A : Nat → Prop} (hA : ∀ a : Nat, a < s.heap.size → ¬ A a) : ∃ t : Nat, (Term.static "GlassSpill" "HIGHEST_VALUES" "[I").eval #[Value.ref b] s none [] s = some (.ref t) ∧ va_T .int t 6 (fun j => .int (nI (hv j))) A s s.heap := by
  have hs := flat_of_before _ hgv
  refine va_Tof (by decide) (hs (Cond.arrayOf (.static "GlassSpill" "HIGHEST_VALUES" "[I") .int) (by decide +kernel)) (va_eqt (z := 6) (hs (Cond.eq (.length (.static "GlassSpill" "HIGHEST_VALUES" "[I")) (.int 6)) (by decide +kernel))) (fun j hj => ?_) hA
  rcases (show j = 0 ∨ j = 1 ∨ j = 2 ∨ j = 3 ∨ j = 4 ∨ j = 5 by omega) with rfl | rfl | rfl | rfl | rfl | rfl
  · exact va_eqt (z := 45) (hs (Cond.eq (.elem (.static "GlassSpill" "HIGHEST_VALUES" "[I") (.int 0)) (.int 45)) (by decide +kernel))
  · exact va_eqt (z := 45) (hs (Cond.eq (.elem (.static "GlassSpill" "HIGHEST_VALUES" "[I") (.int 1)) (.int 45)) (by decide +kernel))
  · exact va_eqt (z := 16) (hs (Cond.eq (.elem (.static "GlassSpill" "HIGHEST_VALUES" "[I") (.int 2)) (.int 16)) (by decide +kernel))
  · exact va_eqt (z := 16) (hs (Cond.eq (.elem (.static "GlassSpill" "HIGHEST_VALUES" "[I") (.int 3)) (.int 16)) (by decide +kernel))
  · exact va_eqt (z := 16) (hs (Cond.eq (.elem (.static "GlassSpill" "HIGHEST_VALUES" "[I") (.int 4)) (.int 16)) (by decide +kernel))
  · exact va_eqt (z := 1) (hs (Cond.eq (.elem (.static "GlassSpill" "HIGHEST_VALUES" "[I") (.int 5)) (.int 1)) (by decide +kernel))
set_option maxRecDepth 20000 in
theorem lw_Kn {s : State} {b : Nat} (hts : ∀ w ∈ lw_tbl, w.before #[Value.ref b] s = true) : ∃ (dC : Nat → ClassId) (dI : Nat → Nat → Nat), ∀ (k : Nat) (q : vw_C), vwCl[k]? = some q → u_Kn s q.1 q.2.1 q.2.2 (dC k) (dI k) := by
  obtain ⟨c0, i0, k0⟩ := u_known (C := RX0) (T := TX0) (N := 3) (n := 3) hts inX0 (hts (.instantiable RX0 3) (List.mem_of_getElem? (i := 123) (by decide +kernel)))
  obtain ⟨c1, i1, k1⟩ := u_known (C := RX1) (T := TX1) (N := 2) (n := 2) hts inX1 (hts (.instantiable RX1 2) (List.mem_of_getElem? (i := 109) (by decide +kernel)))
  obtain ⟨c2, i2, k2⟩ := u_known (C := RX2) (T := TX2) (N := 5) (n := 5) hts inX2 (hts (.instantiable RX2 5) (List.mem_of_getElem? (i := 26) (by decide +kernel)))
  obtain ⟨c3, i3, k3⟩ := u_known (C := RX3) (T := TX3) (N := 10) (n := 10) hts inX3 (hts (.instantiable RX3 10) (List.mem_of_getElem? (i := 65) (by decide +kernel)))
  obtain ⟨c4, i4, k4⟩ := u_known (C := RX4) (T := TX4) (N := 7) (n := 7) hts inX4 (hts (.instantiable RX4 7) (List.mem_of_getElem? (i := 18) (by decide +kernel)))
  refine ⟨fun k => match k with | 0 => c0 | 1 => c1 | 2 => c2 | 3 => c3 | _ => c4, fun k => match k with | 0 => i0 | 1 => i1 | 2 => i2 | 3 => i3 | _ => i4, ?_⟩
  intro k q hq
  match k, hq with
  | 0, hq => cases hq; exact k0
  | 1, hq => cases hq; exact k1
  | 2, hq => cases hq; exact k2
  | 3, hq => cases hq; exact k3
  | 4, hq => cases hq; exact k4
  | k + 5, hq => simp [vwCl] at hq
set_option maxRecDepth 20000 in
theorem lw_Ev {p : Program} {l : Launch} {e : Env} {s : State} {m : MethodId} {below : List Frame} {meth : Method} {c : Code} {Q : State → Prop} {b : Nat} (hx : p.tables.exec = Jvm.exec) (hb : c.code = code) (hml : c.maxLocals = 5) (hown : s.vm.findClass RL = some m.cls) (hts : ∀ w ∈ lw_tbl, w.before #[Value.ref b] s = true) (hgv : (Jvm.Cond.and given_1 narrow_1).before #[Value.ref b] s = true) : ∃ G : VC, Ev G (fun q : Nat => s.heap.size ≤ q) (p, l, e, s, m, #[Value.ref b], below, meth, c, Q) cL_law RL wsL_law 5 := by
  have hA : ∀ a : Nat, a < s.heap.size → ¬ (fun q : Nat => s.heap.size ≤ q) a := fun a h => Nat.not_le.mpr h
  obtain ⟨dC, dI, hKc⟩ := lw_Kn hts
  obtain ⟨cI, i1, i2⟩ := lw_ty (hts (.arrayClass .int) (List.mem_of_getElem? (i := 62) (by decide +kernel))) (fun C h => by cases h)
  obtain ⟨cZ, z1, z2⟩ := lw_ty (hts (.arrayClass .boolean) (List.mem_of_getElem? (i := 63) (by decide +kernel))) (fun C h => by cases h)
  have hao := hts (.arrayOver (.object RX2)) (List.mem_of_getElem? (i := 129) (by decide +kernel))
  obtain ⟨cS, s1, s2⟩ := lw_tyO hao
  obtain ⟨t1, f1, T1⟩ := lw_Tfv hgv hA
  obtain ⟨t2, f2, T2⟩ := lw_Thv hgv hA
  have hini := hts (.initialized RX4) (List.mem_of_getElem? (i := 10) (by decide +kernel))
  have Z1 := va_Zref (C := RX4) (hts (.laysStatic RX4 "FIRST_VALUES" "[I") (List.mem_of_getElem? (i := 32) (by decide +kernel))) hini f1 hA
  have Z2 := va_Zref (C := RX4) (hts (.laysStatic RX4 "HIGHEST_VALUES" "[I") (List.mem_of_getElem? (i := 290) (by decide +kernel))) hini f2 hA
  refine ⟨((dC, dI), (cI, cZ, cS), (t1, t2)), hx, hb, hml, hown, fun w hw => hts w (wsL_law_in w hw), ⟨hKc, fun k q h => ?_⟩, fun q h => h, fun w hw => va_Nw.of (nSame w hw) (hts w (nW_in w hw)), va_AO.of hao, Z1, T1, Z2, T2⟩
  match k, h with
  | 0, h => cases h; exact ⟨i1, i2⟩
  | 1, h => cases h; exact ⟨z1, z2⟩
  | 2, h => cases h; exact ⟨s1, s2⟩
  | k + 3, h => simp [TY] at h
