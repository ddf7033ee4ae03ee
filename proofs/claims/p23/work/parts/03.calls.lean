/-! CONTRACTS over the judgement V, and the rows of calls -/
theorem va_P.perm {D : va_G} {cl : List vw_C} {ws ws' : va_W} {H : Heap} (h : va_P D cl ws H) (p : ws.Perm ws') : va_P D cl ws' H := fun k q hk => by
  obtain ⟨i, hi⟩ := List.getElem?_of_mem (p.mem_iff.mpr (List.mem_of_getElem? hk))
  exact h i q hi
theorem va_D_nd {A : Nat → Prop} {ws : va_W} (h : va_D A ws) : (ws.map Prod.fst).Nodup := by
  rw [List.Nodup, List.pairwise_iff_getElem]
  intro i j hi hj hij e
  simp only [List.length_map] at hi hj
  have := h.1 i j ws[i] ws[j] (List.getElem?_eq_getElem hi) (List.getElem?_eq_getElem hj) (by simpa using e)
  omega
theorem va_D_of {A : Nat → Prop} {ws : va_W} (hn : (ws.map Prod.fst).Nodup) (hA : ∀ q ∈ ws, A q.1) : va_D A ws := by
  refine ⟨fun i j p q hi hj e => ?_, fun k q hk => hA q (List.mem_of_getElem? hk)⟩
  rw [List.Nodup, List.pairwise_iff_getElem] at hn
  obtain ⟨hi1, hi2⟩ := List.getElem?_eq_some_iff.mp hi
  obtain ⟨hj1, hj2⟩ := List.getElem?_eq_some_iff.mp hj
  rcases Nat.lt_trichotomy i j with h | h | h
  · exact absurd (show (ws.map Prod.fst)[i]'(by simpa using hi1) = (ws.map Prod.fst)[j]'(by simpa using hj1) by simp [hi2, hj2, e]) (hn i j (by simpa using hi1) (by simpa using hj1) h)
  · exact h
  · exact absurd (show (ws.map Prod.fst)[j]'(by simpa using hj1) = (ws.map Prod.fst)[i]'(by simpa using hi1) by simp [hi2, hj2, e]) (hn j i (by simpa using hj1) (by simpa using hi1) h)
theorem va_D.perm {A : Nat → Prop} {ws ws' : va_W} (h : va_D A ws) (p : ws.Perm ws') : va_D A ws' :=
  va_D_of ((p.map Prod.fst).nodup (va_D_nd h)) (fun q hq => by
    obtain ⟨i, hi⟩ := List.getElem?_of_mem (p.mem_iff.mpr hq)
    exact h.2 i q hi)
/-- blocks of cells in another order -/
theorem pB (bs : List va_W) (ix : List Nat) (h : ix.Perm (List.range bs.length)) : bs.flatten.Perm ((ix.map (fun i => bs.getD i [])).flatten) := by
  have e : (List.range bs.length).map (fun i => bs.getD i []) = bs := by
    apply List.ext_getElem
    · simp
    · intro i h1 h2
      simp only [List.length_map, List.length_range] at h1
      simp [List.getElem?_eq_getElem h2]
  have h2 := (h.map (fun i => bs.getD i [])).flatten
  rw [e] at h2
  exact h2.symm
def nPc (G : VC) (av : List Value) (wc : va_W) (sz : Nat) : Array Value → State → Prop := va_Pc av (fun U => U.heap.size = sz ∧ va_P G.1 vwCl wc U.heap ∧ va_K G.1 vwCl (TY G) U ∧ va_D (fun _ => True) wc ∧ Gl G (va_A wc sz) U U.heap)
def nQc (G : VC) (wc : va_W) (sz : Nat) (Post : Option Value → va_W → Prop) : Array Value → State → Outcome → State → Prop := fun _ st oc t => (∃ (v : Option Value) (u : va_W), oc = .returned v ∧ Post v u ∧ va_P G.1 vwCl u t.heap ∧ va_D (va_A wc sz) u) ∧ va_F (va_A wc sz) st t
def Ctr (y : MethodName) (wy : List Cond) (rm : Room) (G : VC) (av : List Value) (wc : va_W) (Post : Option Value → va_W → Prop) : Prop := ∀ (l : Launch) (sz : Nat), Met l y wy rm (nPc G av wc sz) (nQc G wc sz Post) rm.cells rm.slots (va_A wc sz)
theorem nBlind {G : VC} {av : List Value} {wc : va_W} {sz : Nat} : FrameBlind (nPc G av wc sz) := fun a U g mk q => by
  obtain ⟨e, q0, q1, q2, q3, q4⟩ := q
  exact ⟨e, q0, q1, va_K.moved (u := U) (U := U.calling g mk a) (Vm.Alike.refl U.vm) q2, q3, q4.call g mk a⟩
section VCL
variable {G : VC} {A : Nat → Prop} {X : VX} {R : Room} {cc : ByteArray} {own : String} {Ts : List Cond} {nL : Nat} {ws : va_W} {kc ks pc : Nat} {lv : List (Option Value)} {st : List Value}
theorem nPre {H : Heap} {locs : List Loc} {av : List Value} {wc : va_W} (E : Ev G A X cc own Ts nL) (hP : va_P G.1 vwCl wc H) (hD : va_D A wc) (hS : va_S A (xs X).heap H locs) (hF : ∀ q, va_A wc H.size q → A q) : ∀ U : State, U.heap = H → (xs X).WarmedH U.vm → nPc G av wc H.size av.toArray U :=
  fun U hU hW => ⟨rfl, by rw [hU], by rw [hU]; exact hP, va_K.moved hW.alike E.2.2.2.2.2.1, hD.weaken (fun _ _ _ _ => trivial), by rw [hU]; exact Gl.go E.2.2.2.2.2.2.2 hW hS.2.1 hF⟩
theorem V.perm {ws' : va_W} (p : ws.Perm ws') (k : V G A X R ws' kc ks pc lv st) : V G A X R ws kc ks pc lv st := fun H locs ls hP hD hS hl => k H locs ls (hP.perm p) (hD.perm p) hS hl
theorem V.ofRun (E : Ev G A X cc own Ts nL) {wc wr : va_W} {Post : Option Value → va_W → Prop} {av rest st0 : List Value} {mc ms : Nat} {a : Array Value} (hp : ws.Perm (wc ++ wr))
    (hrun : ∀ (H : Heap) (locs : List Loc) (ls : Array Slot), ls.size = lv.length → va_S A (xs X).heap H locs → va_P G.1 vwCl ws H → (∀ U : State, U.heap = H → (xs X).WarmedH U.vm → nPc G av wc H.size av.toArray U) → va_Run X.1 X.2.1 X.2.2.1 R (xs X) (xm X) (xa X) (xb X) (xh X) (xc X) H locs kc ks mc ms (F0 (xm X) pc ls st0) rest (nQc G wc H.size Post a) (va_A wc H.size))
    (k : ∀ (v : Option Value) (u : va_W), Post v u → V G A X R (u ++ wr) (kc + mc) (ks + ms) (pc + 3) lv (v.toList ++ rest)) : V G A X R ws kc ks pc lv st0 := by
  intro H locs ls hP hD hS hl
  have hP' := hP.perm hp
  have hD' := hD.perm hp
  have inl : ∀ (i : Nat) (q : Nat × va_E), wc[i]? = some q → (wc ++ wr)[i]? = some q := fun i q h => by
    rw [List.getElem?_append_left (List.getElem?_eq_some_iff.mp h).1]; exact h
  have inr : ∀ (i : Nat) (q : Nat × va_E), wr[i]? = some q → (wc ++ wr)[wc.length + i]? = some q := fun i q h => by
    rw [List.getElem?_append_right (by omega), show wc.length + i - wc.length = i by omega]; exact h
  have hPc : va_P G.1 vwCl wc H := fun k q hk => hP' k q (inl k q hk)
  have hPr : va_P G.1 vwCl wr H := fun k q hk => hP' _ q (inr k q hk)
  have hDc : va_D A wc := ⟨fun i j p q hi hj e => hD'.1 i j p q (inl i p hi) (inl j q hj) e, fun k q hk => hD'.2 k q (inl k q hk)⟩
  have hDr : va_D A wr := ⟨fun i j p q hi hj e => by have := hD'.1 _ _ p q (inr i p hi) (inr j q hj) e; omega, fun k q hk => hD'.2 _ q (inr k q hk)⟩
  have hF : ∀ q, va_A wc H.size q → A q := by
    rintro q (⟨i, e, h⟩ | h)
    · exact hDc.2 i (q, e) h
    · exact E.2.2.2.2.2.2.1 q (Nat.le_trans hS.1 h)
  have out : ∀ (i : Nat) (q : Nat × va_E), wr[i]? = some q → ¬ va_A wc H.size q.1 := by
    rintro i q h (⟨j, e, h2⟩ | h2)
    · have h3 := hD'.1 _ _ q (q.1, e) (inr i q h) (inl j _ h2) rfl
      have h4 := (List.getElem?_eq_some_iff.mp h2).1
      omega
    · have := (hPr i q h).lt
      omega
  intro T hT XX
  obtain ⟨v, st₀, t, T', L, h0, X', hL, e1, e2, ⟨⟨v', u, hv, hpost, hPu, hDu⟩, hz, hk⟩, hst⟩ := hrun H locs ls hl.1 hS hP (nPre E hPc hDc hS hF) T hT XX
  cases hv
  rw [h0] at hz hk
  have hPr1 : va_P G.1 vwCl wr T'.heap := hPr.kept (fun i q hq => by rw [e1]; exact hk q.1 (hPr i q hq).lt (out i q hq))
  have hPu1 : va_P G.1 vwCl u T'.heap := by rw [e1]; exact hPu
  have hDn : va_D A (u ++ wr) := va_D.app (hDu.weaken (fun _ q _ h => hF q.1 h)) hDr (fun i j p q hi hj e => out j q hj (by rw [← e]; exact hDu.2 i p hi))
  obtain ⟨t2, a1, b1⟩ := k v u hpost T'.heap (locs ++ L) ls (hPu1.app hPr1) hDn
    ⟨Nat.le_trans hS.1 (by rw [e1]; exact hz), fun q h1 h2 => by rw [e1, hk q (Nat.lt_of_lt_of_le h1 hS.1) (fun z => h2 (hF q z))]; exact hS.2.1 q h1 h2, fun q hq => by
      rcases List.mem_append.mp hq with h | h
      · exact hS.2.2 q h
      · exact hF _ (hL q h)⟩ hl T' rfl X'
  exact ⟨t2, hst t2 a1, b1⟩
theorem V.callS (E : Ev G A X cc own Ts nL) {y : MethodName} {wy wy' : List Cond} {rm : Room} {av : List Value} {wc : va_W} {Post : Option Value → va_W → Prop} (hC : Ctr y wy rm G av wc Post) (wr : va_W) (rest : List Value) {st0 : List Value} {index maxL : Nat} {bytes : ByteArray} {ret : Option FieldType} (hG : GoodIn Ts (va_wsS own index y wy)) (hw : wy = Cond.code y bytes maxL ret :: wy')
    (hd : y.cls ≠ "java/lang/invoke/MethodHandle" ∧ y.cls ≠ "java/lang/invoke/VarHandle" ∧ (parseMethodDescriptor y.desc).map (fun d => d.parameters.length) = some av.length) (hR : (rm.frames + 1 ≤ R.frames ∧ 8 + (maxL + 11) + rm.locals ≤ R.locals) ∧ kc + rm.cells ≤ R.cells ∧ ks + rm.slots ≤ R.slots) (hnl : lv.length = nL) (hcat : (rest.map fun v => v.category).sum ≤ 8) (hst : av.reverse ++ rest = st0) (hdg : decode cc pc = .ok (.invokestatic index, 3)) (hp : ws.Perm (wc ++ wr))
    {kc' ks' : Nat} (hkc : kc + rm.cells = kc') (hks : ks + rm.slots = ks') (k : ∀ (v : Option Value) (u : va_W), Post v u → V G A X R (u ++ wr) kc' ks' (pc + 3) lv (v.toList ++ rest)) : V G A X R ws kc ks pc lv st0 := by
  subst hkc; subst hks; exact
  V.ofRun E hp (fun H locs ls hsz hS hP hpre => va_runS (As := av) (rest := rest) ⟨E.1, E.2.1, E.2.2.1, E.2.2.2.1, E.2.2.2.2.1⟩ (hC X.2.1 H.size) (va_cwS av.length E.2.2.2.2.1 hG hw rfl rfl hd hR.1) ⟨nBlind, hpre⟩ rfl rfl (hsz.trans hnl) hst.symm (lv_room hcat) hdg hR.2) k
theorem V.callSN (E : Ev G A X cc own Ts nL) {y : MethodName} {wy wy' : List Cond} {rm : Room} {av : List Value} {wc : va_W} {Post : Option Value → va_W → Prop} (hC : Ctr y wy rm G av wc Post) (wr : va_W) (rest : List Value) {st0 : List Value} {index maxL : Nat} {bytes : ByteArray} {ret : Option FieldType} {host : String} (hG : GoodIn Ts wy) (hw : wy = Cond.code y bytes maxL ret :: wy') (hl : Cond.methodLinkNest own index y host ∈ nWords) (hini : Cond.initialized y.cls ∈ Ts) (hsta : Cond.static y ∈ Ts)
    (hd : y.cls ≠ "java/lang/invoke/MethodHandle" ∧ y.cls ≠ "java/lang/invoke/VarHandle" ∧ (parseMethodDescriptor y.desc).map (fun d => d.parameters.length) = some av.length) (hR : (rm.frames + 1 ≤ R.frames ∧ 8 + (maxL + 11) + rm.locals ≤ R.locals) ∧ kc + rm.cells ≤ R.cells ∧ ks + rm.slots ≤ R.slots) (hnl : lv.length = nL) (hcat : (rest.map fun v => v.category).sum ≤ 8) (hst : av.reverse ++ rest = st0) (hdg : decode cc pc = .ok (.invokestatic index, 3)) (hp : ws.Perm (wc ++ wr))
    {kc' ks' : Nat} (hkc : kc + rm.cells = kc') (hks : ks + rm.slots = ks') (k : ∀ (v : Option Value) (u : va_W), Post v u → V G A X R (u ++ wr) kc' ks' (pc + 3) lv (v.toList ++ rest)) : V G A X R ws kc ks pc lv st0 := by
  subst hkc; subst hks; exact
  V.ofRun E hp (fun H locs ls hsz hS hP hpre => va_runSN (As := av) (rest := rest) ⟨E.1, E.2.1, E.2.2.1, E.2.2.2.1, E.2.2.2.2.1⟩ (hC X.2.1 H.size) ⟨va_cnB av.length E.2.2.2.2.1 hG hw rfl rfl (E.2.2.2.2.2.2.2.1 _ hl) (E.2.2.2.2.1 _ hini) hd hR.1, E.2.2.2.2.1 _ hsta, trivial⟩ ⟨nBlind, hpre⟩ rfl rfl (hsz.trans hnl) hst.symm (lv_room hcat) hdg hR.2) k
theorem V.callV (E : Ev G A X cc own Ts nL) {y : MethodName} {wy wy' : List Cond} {rm : Room} {b : Nat} {As : List Value} {wc : va_W} {Post : Option Value → va_W → Prop} (hC : Ctr y wy rm G (.ref b :: As) wc Post) (wr : va_W) (rest : List Value) {st0 : List Value} {index maxL : Nat} {bytes : ByteArray} {ret : Option FieldType} {C : String} (q0 ci : Nat) {q : vw_C} {fs : List Value} (hc : vwCl[ci]? = some q) (hq : q.1 = C) (he : ws[q0]? = some (b, .inr (ci, fs))) (hG : GoodIn Ts (wsV own index C y wy)) (hw : wy = Cond.code y bytes maxL ret :: wy')
    (hd : y.cls = C ∧ y.cls ≠ "java/lang/invoke/MethodHandle" ∧ y.cls ≠ "java/lang/invoke/VarHandle" ∧ (parseMethodDescriptor y.desc).map (fun d => d.parameters.length) = some As.length) (hR : (rm.frames + 1 ≤ R.frames ∧ 8 + (maxL + 11) + rm.locals ≤ R.locals) ∧ kc + rm.cells ≤ R.cells ∧ ks + rm.slots ≤ R.slots) (hnl : lv.length = nL) (hcat : (rest.map fun v => v.category).sum ≤ 8) (hst : As.reverse ++ .ref b :: rest = st0) (hdg : decode cc pc = .ok (.invokevirtual index, 3)) (hp : ws.Perm (wc ++ wr))
    {kc' ks' : Nat} (hkc : kc + rm.cells = kc') (hks : ks + rm.slots = ks') (k : ∀ (v : Option Value) (u : va_W), Post v u → V G A X R (u ++ wr) kc' ks' (pc + 3) lv (v.toList ++ rest)) : V G A X R ws kc ks pc lv st0 := by
  subst hkc; subst hks; exact
  V.ofRun E hp (fun H locs ls hsz hS hP hpre => va_runV (As := As) (rest := rest) ⟨E.1, E.2.1, E.2.2.1, E.2.2.2.1, E.2.2.2.2.1⟩ (hC X.2.1 H.size) (cwV As.length E.2.2.2.2.1 hG hw rfl rfl hd hR.1) ⟨nBlind, by rw [← hq]; exact va_recv E.2.2.2.2.2.1 hP hc he, hpre⟩ rfl rfl (hsz.trans hnl) hst.symm (lv_room hcat) hdg hR.2) k
theorem V.callI (E : Ev G A X cc own Ts nL) {y : MethodName} {wy wy' : List Cond} {rm : Room} {b : Nat} {As : List Value} {wc : va_W} {Post : Option Value → va_W → Prop} (hC : Ctr y wy rm G (.ref b :: As) wc Post) (wr : va_W) (rest : List Value) {st0 : List Value} {index maxL : Nat} {bytes : ByteArray} (hG : GoodIn Ts wy) (hw : wy = Cond.code y bytes maxL none :: wy') (hini : Cond.initialized y.cls ∈ Ts) (hl : Cond.methodLink own index y ∈ Ts) (hin : Cond.instanceMethod y ∈ Ts) (hy1 : y.name = "<init>")
    (hd : y.cls ≠ "java/lang/invoke/MethodHandle" ∧ y.cls ≠ "java/lang/invoke/VarHandle" ∧ (parseMethodDescriptor y.desc).map (fun d => d.parameters.length) = some As.length) (hR : (rm.frames + 1 ≤ R.frames ∧ 8 + (maxL + 11) + rm.locals ≤ R.locals) ∧ kc + rm.cells ≤ R.cells ∧ ks + rm.slots ≤ R.slots) (hnl : lv.length = nL) (hcat : (rest.map fun v => v.category).sum ≤ 8) (hst : As.reverse ++ .ref b :: rest = st0) (hdg : decode cc pc = .ok (.invokespecial index, 3)) (hp : ws.Perm (wc ++ wr))
    {kc' ks' : Nat} (hkc : kc + rm.cells = kc') (hks : ks + rm.slots = ks') (k : ∀ (v : Option Value) (u : va_W), Post v u → V G A X R (u ++ wr) kc' ks' (pc + 3) lv (v.toList ++ rest)) : V G A X R ws kc ks pc lv st0 := by
  subst hkc; subst hks; exact
  V.ofRun E hp (fun H locs ls hsz hS hP hpre => va_runI (As := As) (rest := rest) ⟨E.1, E.2.1, E.2.2.1, E.2.2.2.1, E.2.2.2.2.1⟩ (hC X.2.1 H.size) (cwI As.length E.2.2.2.2.1 hG hw rfl rfl (E.2.2.2.2.1 _ hini) (E.2.2.2.2.1 _ hl) (E.2.2.2.2.1 _ hin) hy1 hd hR.1) ⟨nBlind, hpre⟩ rfl rfl (hsz.trans hnl) hst.symm (lv_room hcat) hdg hR.2) k
theorem V.callIN (E : Ev G A X cc own Ts nL) {y : MethodName} {wy wy' : List Cond} {rm : Room} {b : Nat} {As : List Value} {wc : va_W} {Post : Option Value → va_W → Prop} (hC : Ctr y wy rm G (.ref b :: As) wc Post) (wr : va_W) (rest : List Value) {st0 : List Value} {index maxL : Nat} {bytes : ByteArray} {host : String} (hG : GoodIn Ts wy) (hw : wy = Cond.code y bytes maxL none :: wy') (hl : Cond.methodLinkNest own index y host ∈ nWords) (hini : Cond.initialized y.cls ∈ Ts) (hin : Cond.instanceMethod y ∈ Ts) (hy1 : y.name = "<init>")
    (hd : y.cls ≠ "java/lang/invoke/MethodHandle" ∧ y.cls ≠ "java/lang/invoke/VarHandle" ∧ (parseMethodDescriptor y.desc).map (fun d => d.parameters.length) = some As.length) (hR : (rm.frames + 1 ≤ R.frames ∧ 8 + (maxL + 11) + rm.locals ≤ R.locals) ∧ kc + rm.cells ≤ R.cells ∧ ks + rm.slots ≤ R.slots) (hnl : lv.length = nL) (hcat : (rest.map fun v => v.category).sum ≤ 8) (hst : As.reverse ++ .ref b :: rest = st0) (hdg : decode cc pc = .ok (.invokespecial index, 3)) (hp : ws.Perm (wc ++ wr))
    {kc' ks' : Nat} (hkc : kc + rm.cells = kc') (hks : ks + rm.slots = ks') (k : ∀ (v : Option Value) (u : va_W), Post v u → V G A X R (u ++ wr) kc' ks' (pc + 3) lv (v.toList ++ rest)) : V G A X R ws kc ks pc lv st0 := by
  subst hkc; subst hks; exact
  V.ofRun E hp (fun H locs ls hsz hS hP hpre => va_runIN (As := As) (rest := rest) ⟨E.1, E.2.1, E.2.2.1, E.2.2.2.1, E.2.2.2.2.1⟩ (hC X.2.1 H.size) ⟨va_cnB As.length E.2.2.2.2.1 hG hw rfl rfl (E.2.2.2.2.2.2.2.1 _ hl) (E.2.2.2.2.1 _ hini) hd hR.1, hy1, E.2.2.2.2.1 _ hin⟩ ⟨nBlind, hpre⟩ rfl rfl (hsz.trans hnl) hst.symm (lv_room hcat) hdg hR.2) k
/-- a method's contract out of the walk of its body -/
theorem Ctr.body {y : MethodName} {wy wy' : List Cond} {rm : Room} {av : List Value} {wc : va_W} {Post : Option Value → va_W → Prop} {maxL : Nat} {ret : Option FieldType} {lv0 : List (Option Value)} (hy : plainName y.cls = true) (hw : wy = Cond.code y cc maxL ret :: wy') (hn : lv0.length = maxL) (hlv : v_pairs 0 lv0 = lv_args 0 av) (hsl : (lg_sl av).length ≤ maxL)
    (body : ∀ (A : Nat → Prop) (X : VX), Ev G A X cc y.cls wy maxL → (∀ q, va_A wc (xs X).heap.size q → A q) → (xh X).sig.returnType = ret → (xh X).locks = false → (y.name = "<init>" → (xh X).name = "<init>") →
      (∀ (H : Heap) (locs : List Loc) (ls : Array Slot) (pc : Nat) (v : Option Value) (u : va_W) (st : List Value), (∀ (hq : ∀ t : State, t.heap = H → (xs X).WarmedH t.vm → nQc G wc (xs X).heap.size Post (xa X) (xs X) (.returned v) t) (hf : ∀ q ∈ locs, va_A wc (xs X).heap.size q.base), W X.1 X.2.1 X.2.2.1 rm (xs X) (xm X) (xa X) (xb X) (xh X) (xc X) H locs rm.cells rm.slots (MQ (xb X) (nQc G wc (xs X).heap.size Post) (xa X) (xs X) rm.cells rm.slots (va_A wc (xs X).heap.size)) (F0 (xm X) pc ls st)) → Post v u → va_P G.1 vwCl u H → va_D A u → va_S A (xs X).heap H locs → W X.1 X.2.1 X.2.2.1 rm (xs X) (xm X) (xa X) (xb X) (xh X) (xc X) H locs rm.cells rm.slots (xq X) (F0 (xm X) pc ls st)) →
      V G A X rm wc 0 0 0 lv0 []) : Ctr y wy rm G av wc Post := by
  intro l sz
  refine Met.ofW (cc := cc) (maxL := maxL) (ret := ret) hy hw ?_
  intro p e s m args below meth c s₁ B hml hv
  obtain ⟨rfl, hsz, hP, hK, hD0, hGl⟩ := hv
  subst hsz
  have hD := hD0.self (sz := s.heap.size)
  have hl := lv_entry av (n := maxL) hsl
  rw [lg_entry_eq]
  generalize (lg_sl av ++ List.replicate (maxL - (lg_sl av).length) Slot.unset).toArray = ls at hl ⊢
  have hb := body (va_A wc s.heap.size) (p, l, e, s, m, av.toArray, below, meth, c, MQ below (nQc G wc s.heap.size Post) av.toArray s rm.cells rm.slots (va_A wc s.heap.size))
    ⟨B.exec, B.bytes, hml, findClass_of_methodNamed B.named, atoms_spec (ws := wy) B.pre, hK, fun q h => Or.inr h, hGl⟩ (fun q h => h) B.returns B.notSynchronized (fun h => by
      have h1 := (name_of_methodNamed B.named B.method).1
      exact h1.trans h)
    (fun H locs ls pc v u st hW hpost hPu hDu hS => hW (fun t ht hW2 => ⟨⟨v, u, rfl, hpost, by rw [ht]; exact hPu, hDu⟩, hS.F ht⟩) hS.2.2)
  exact hb s.heap [] ls hP hD va_S.rf ⟨by rw [hl.1, hn], hl.2.1, by rw [hlv]; exact hl.2.2⟩
theorem Ctr.int {y : MethodName} {wy wy' : List Cond} {rm : Room} {av : List Value} {wc : va_W} {Post : Option Value → va_W → Prop} {maxL : Nat} {ret : Option FieldType} {lv0 : List (Option Value)} (hy : plainName y.cls = true) (hw : wy = Cond.code y cc maxL ret :: wy') (hn : lv0.length = maxL) (hlv : v_pairs 0 lv0 = lv_args 0 av) (hsl : (lg_sl av).length ≤ maxL) {ty : FieldType} (hret : ret = some ty)
    (body : ∀ (A : Nat → Prop) (X : VX), Ev G A X cc y.cls wy maxL → (∀ (u : va_W) (pc : Nat) (lv : List (Option Value)) (v : Int32), decode cc pc = .ok (.ireturn, 1) → narrow ty (.int v) = .int v → Post (some (.int v)) u → V G A X rm u rm.cells rm.slots pc lv [.int v]) → V G A X rm wc 0 0 0 lv0 []) : Ctr y wy rm G av wc Post :=
  Ctr.body hy hw hn hlv hsl (fun A X E hA hr hlk _ hend => body A X E (fun u pc lv v hdg hn hpost H locs ls hP hD hS hl => hend H locs ls pc (some (.int v)) u [.int v] (fun hq hf => W.zret E.1 E.2.1 (hr.trans hret) hn hq hf hdg hlk) hpost hP hD hS))
theorem Ctr.void {y : MethodName} {wy wy' : List Cond} {rm : Room} {av : List Value} {wc : va_W} {Post : Option Value → va_W → Prop} {maxL : Nat} {lv0 : List (Option Value)} (hy : plainName y.cls = true) (hw : wy = Cond.code y cc maxL none :: wy') (hn : lv0.length = maxL) (hlv : v_pairs 0 lv0 = lv_args 0 av) (hsl : (lg_sl av).length ≤ maxL)
    (body : ∀ (A : Nat → Prop) (X : VX), Ev G A X cc y.cls wy maxL → (y.name = "<init>" → (xh X).name = "<init>") → (∀ (u : va_W) (pc : Nat) (lv : List (Option Value)), decode cc pc = .ok (.return_, 1) → Post none u → V G A X rm u rm.cells rm.slots pc lv []) → V G A X rm wc 0 0 0 lv0 []) : Ctr y wy rm G av wc Post :=
  Ctr.body hy hw hn hlv hsl (fun A X E hA hr hlk hin hend => body A X E hin (fun u pc lv hdg hpost H locs ls hP hD hS hl => hend H locs ls pc none u [] (fun hq hf => W.vret E.1 E.2.1 hr hq hf hdg hlk) hpost hP hD hS))
theorem Ctr.aref {y : MethodName} {wy wy' : List Cond} {rm : Room} {av : List Value} {wc : va_W} {Post : Option Value → va_W → Prop} {maxL : Nat} {ty : FieldType} {lv0 : List (Option Value)} (hy : plainName y.cls = true) (hw : wy = Cond.code y cc maxL (some (.array ty)) :: wy') (hn : lv0.length = maxL) (hlv : v_pairs 0 lv0 = lv_args 0 av) (hsl : (lg_sl av).length ≤ maxL)
    (body : ∀ (A : Nat → Prop) (X : VX), Ev G A X cc y.cls wy maxL → (∀ (u : va_W) (pc : Nat) (lv : List (Option Value)) (b : Nat), decode cc pc = .ok (.areturn, 1) → Post (some (.ref b)) u → V G A X rm u rm.cells rm.slots pc lv [.ref b]) → V G A X rm wc 0 0 0 lv0 []) : Ctr y wy rm G av wc Post :=
  Ctr.body hy hw hn hlv hsl (fun A X E hA hr hlk _ hend => body A X E (fun u pc lv b hdg hpost H locs ls hP hD hS hl => hend H locs ls pc (some (.ref b)) u [.ref b] (fun hq hf => W.aret E.1 E.2.1 hr (Or.inr ⟨ty, rfl⟩) (Or.inr ⟨b, rfl⟩) hq hf hdg hlk) hpost hP hD hS))
theorem pBs (bs : List va_W) (ic ir : List Nat) {n : Nat} (hn : bs.length = n) (h : (ic ++ ir).Perm (List.range n)) : bs.flatten.Perm ((ic.map (fun i => bs.getD i [])).flatten ++ (ir.map (fun i => bs.getD i [])).flatten) := by
  have h1 := pB bs (ic ++ ir) (by rw [hn]; exact h)
  rwa [List.map_append, List.flatten_append] at h1
theorem rwI {w' wr ws' : va_W} {rest : List Value} {r : Int32} (hp : (w' ++ wr).Perm ws') (k : V G A X R ws' kc ks pc lv (.int r :: rest)) : ∀ (v : Option Value) (u : va_W), (u = w' ∧ v = some (.int r)) → V G A X R (u ++ wr) kc ks pc lv (v.toList ++ rest) := by
  rintro v u ⟨rfl, rfl⟩
  exact V.perm hp k
theorem rwR {w' wr ws' : va_W} {rest : List Value} {r : Nat} (hp : (w' ++ wr).Perm ws') (k : V G A X R ws' kc ks pc lv (.ref r :: rest)) : ∀ (v : Option Value) (u : va_W), (u = w' ∧ v = some (.ref r)) → V G A X R (u ++ wr) kc ks pc lv (v.toList ++ rest) := by
  rintro v u ⟨rfl, rfl⟩
  exact V.perm hp k
theorem rwV {w' wr ws' : va_W} {rest : List Value} (hp : (w' ++ wr).Perm ws') (k : V G A X R ws' kc ks pc lv rest) : ∀ (v : Option Value) (u : va_W), (u = w' ∧ v = none) → V G A X R (u ++ wr) kc ks pc lv (v.toList ++ rest) := by
  rintro v u ⟨rfl, rfl⟩
  exact V.perm hp k
/-- a call whose end has a part that nobody needs to name -/
theorem rxI {S : Type} {w' : S → va_W} {wr : va_W} {ws' : S → va_W} {rest : List Value} {r : S → Int32} {F : S → Prop} (hp : ∀ x, (w' x ++ wr).Perm (ws' x)) (k : ∀ x, F x → V G A X R (ws' x) kc ks pc lv (.int (r x) :: rest)) : ∀ (v : Option Value) (u : va_W), (∃ x, u = w' x ∧ v = some (.int (r x)) ∧ F x) → V G A X R (u ++ wr) kc ks pc lv (v.toList ++ rest) := by
  rintro v u ⟨x, rfl, rfl, hf⟩
  exact V.perm (hp x) (k x hf)
theorem rxV {S : Type} {w' : S → va_W} {wr : va_W} {ws' : S → va_W} {rest : List Value} {F : S → Prop} (hp : ∀ x, (w' x ++ wr).Perm (ws' x)) (k : ∀ x, F x → V G A X R (ws' x) kc ks pc lv rest) : ∀ (v : Option Value) (u : va_W), (∃ x, u = w' x ∧ v = none ∧ F x) → V G A X R (u ++ wr) kc ks pc lv (v.toList ++ rest) := by
  rintro v u ⟨x, rfl, rfl, hf⟩
  exact V.perm (hp x) (k x hf)
end VCL
abbrev bl (bs : List va_W) : va_W := bs.flatten
