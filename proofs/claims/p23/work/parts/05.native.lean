/-! rows of V: Math, System.arraycopy, what is made -/
theorem mm_max {a b : Nat} (ha : a < 2 ^ 31) (hb : b < 2 ^ 31) : (if nI a < nI b then nI b else nI a) = nI (max a b) := by
  by_cases h : a < b
  · rw [if_pos ((nI_ltI ha hb).mpr h), Nat.max_eq_right (by omega)]
  · rw [if_neg (fun e => h ((nI_ltI ha hb).mp e)), Nat.max_eq_left (by omega)]
theorem mm_min {a b : Nat} (ha : a < 2 ^ 31) (hb : b < 2 ^ 31) : (if nI b < nI a then nI b else nI a) = nI (min a b) := by
  by_cases h : b < a
  · rw [if_pos ((nI_ltI hb ha).mpr h), Nat.min_eq_right (by omega)]
  · rw [if_neg (fun e => h ((nI_ltI hb ha).mp e)), Nat.min_eq_left (by omega)]
theorem mm_abs {a b : Nat} (ha : a < 2 ^ 30) (hb : b < 2 ^ 30) : (if 0 ≤ nI a - nI b then nI a - nI b else 0 - (nI a - nI b)) = nI ((a - b) + (b - a)) := by
  have e := pk_sub_toInt ha hb
  by_cases h : b ≤ a
  · rw [if_pos (by rw [i_le, e, i_0]; omega), pk_sub h, show (a - b) + (b - a) = a - b by omega]
  · rw [if_neg (by rw [i_le, e, i_0]; omega)]
    have e2 : (0 : Int32) - (nI a - nI b) = nI b - nI a := by
      rw [Int32.zero_sub, Int32.neg_sub]
    rw [e2, pk_sub (by omega), show (a - b) + (b - a) = b - a by omega]
theorem mm_pos {a b : Nat} (ha : a < 2 ^ 30) (hb : b < 2 ^ 30) : (if nI 0 < nI a - nI b then nI a - nI b else nI 0) = nI (a - b) := by
  have e := pk_sub_toInt ha hb
  have e0 : (nI 0).toInt = 0 := rfl
  by_cases h : b < a
  · rw [if_pos (by rw [i_lt, e, e0]; omega), pk_sub (by omega)]
  · rw [if_neg (by rw [i_lt, e, e0]; omega), show a - b = 0 by omega]
section VNV
variable {G : VC} {A : Nat → Prop} {X : VX} {R : Room} {cc : ByteArray} {own : String} {Ts : List Cond} {nL : Nat} {ws : va_W} {kc ks pc : Nat} {lv : List (Option Value)} {st : List Value}
def mathIn (Ts : List Cond) (own : String) (index : Nat) (y : MethodName) (cd : ByteArray) (k : Nat) : Prop := Cond.methodLink own index y ∈ Ts ∧ Cond.static y ∈ Ts ∧ Cond.initialized "java/lang/Math" ∈ Ts ∧ Cond.code y cd k (some .int) ∈ Ts
theorem V.mmax (E : Ev G A X cc own Ts nL) {index : Nat} (hm : mathIn Ts own index Lib.Math.max.name Lib.Math.max.code 2) (hR : 1 ≤ R.frames ∧ (st.map fun v => v.category).sum + 13 ≤ R.locals ∧ kc ≤ R.cells ∧ ks ≤ R.slots) (hnl : lv.length = nL) {x y : Int32} (hdg : decode cc pc = .ok (.invokestatic index, 3)) (k : V G A X R ws kc ks (pc + 3) lv (.int (if x < y then y else x) :: st)) : V G A X R ws kc ks pc lv (.int y :: .int x :: st) :=
  fun H locs ls hP hD hS hl => va_mmax E.1 E.2.1 (by rw [E.2.2.1, hl.1, hnl]) E.2.2.2.1 (E.2.2.2.2.1 _ hm.1) (E.2.2.2.2.1 _ hm.2.1) (E.2.2.2.2.1 _ hm.2.2.1) (E.2.2.2.2.1 _ hm.2.2.2) hR.1 hR.2.1 hR.2.2.1 hR.2.2.2 hdg (k H locs ls hP hD hS hl)
theorem V.mmin (E : Ev G A X cc own Ts nL) {index : Nat} (hm : mathIn Ts own index Lib.Math.min.name Lib.Math.min.code 2) (hR : 1 ≤ R.frames ∧ (st.map fun v => v.category).sum + 13 ≤ R.locals ∧ kc ≤ R.cells ∧ ks ≤ R.slots) (hnl : lv.length = nL) {x y : Int32} (hdg : decode cc pc = .ok (.invokestatic index, 3)) (k : V G A X R ws kc ks (pc + 3) lv (.int (if y < x then y else x) :: st)) : V G A X R ws kc ks pc lv (.int y :: .int x :: st) :=
  fun H locs ls hP hD hS hl => va_mmin E.1 E.2.1 (by rw [E.2.2.1, hl.1, hnl]) E.2.2.2.1 (E.2.2.2.2.1 _ hm.1) (E.2.2.2.2.1 _ hm.2.1) (E.2.2.2.2.1 _ hm.2.2.1) (E.2.2.2.2.1 _ hm.2.2.2) hR.1 hR.2.1 hR.2.2.1 hR.2.2.2 hdg (k H locs ls hP hD hS hl)
theorem V.mabs (E : Ev G A X cc own Ts nL) {index : Nat} (hm : mathIn Ts own index Lib.Math.abs.name Lib.Math.abs.code 1) (hR : 1 ≤ R.frames ∧ (st.map fun v => v.category).sum + 13 ≤ R.locals ∧ kc ≤ R.cells ∧ ks ≤ R.slots) (hnl : lv.length = nL) {x : Int32} (hdg : decode cc pc = .ok (.invokestatic index, 3)) (k : V G A X R ws kc ks (pc + 3) lv (.int (if 0 ≤ x then x else 0 - x) :: st)) : V G A X R ws kc ks pc lv (.int x :: st) :=
  fun H locs ls hP hD hS hl => va_mabs E.1 E.2.1 (by rw [E.2.2.1, hl.1, hnl]) E.2.2.2.1 (E.2.2.2.2.1 _ hm.1) (E.2.2.2.2.1 _ hm.2.1) (E.2.2.2.2.1 _ hm.2.2.1) (E.2.2.2.2.1 _ hm.2.2.2) hR.1 hR.2.1 hR.2.2.1 hR.2.2.2 hdg (k H locs ls hP hD hS hl)
/-- a whole row of numbers (or of marks) copied to another of the same length -/
theorem V.copy (E : Ev G A X cc own Ts nL) (q0 q1 t0 : Nat) {a0 a1 n index : Nat} {c : ClassId} {ty : FieldType} {f g : Nat → Int32} {ws' : va_W} (h0 : ws[q0]? = some (a0, kA c n f)) (h1 : ws[q1]? = some (a1, kA c n g)) (ht : (TY G)[t0]? = some (c, ty)) (hprim : refKind ty = false) (hn : n < 2 ^ 31) (hfit : ∀ i, i < n → fits ty (.int (f i)) = true)
    (hl : Cond.methodLink own index arraycopyName ∈ Ts) (hna : Cond.native arraycopyName ∈ Ts) (hsta : Cond.static arraycopyName ∈ Ts) (hini : Cond.initialized "java/lang/System" ∈ Ts) (hR : 1 ≤ R.frames ∧ (st.map fun v => v.category).sum + (nativeFrameWords "java/lang/System" "arraycopy" 5 + 11) ≤ R.locals) (hnl : lv.length = nL) (hdg : decode cc pc = .ok (.invokestatic index, 3)) (hw : ws.set q1 (a1, kA c n f) = ws') (k : V G A X R ws' kc ks (pc + 3) lv st) : V G A X R ws kc ks pc lv (.int (nI n) :: .int (nI 0) :: .ref a1 :: .int (nI 0) :: .ref a0 :: st) :=
  fun H locs ls hP hD hS hls => va_copyi E.1 E.2.1 (by rw [E.2.2.1, hls.1, hnl]) E.2.2.2.1 (E.2.2.2.2.1 _ hl) (E.2.2.2.2.1 _ hna) (E.2.2.2.2.1 _ hsta) (E.2.2.2.2.1 _ hini) E.2.2.2.2.2.1 hP hD hS q0 q1 t0 t0 h0 h1 ht ht hprim (nI_pos (by decide)) (nI_pos (by decide)) (nI_pos hn)
    (by rw [nI_clamp hn, nI_clamp (by decide)]; omega) (by rw [nI_clamp hn, nI_clamp (by decide)]; omega) (by rw [nI_clamp hn, nI_clamp (by decide)]; intro i hi; rw [Nat.zero_add]; exact hfit i hi) hR.1 hR.2 hdg
    (fun H1 locs1 hP1 hD1 hS1 => by
      have hq : q1 < ws.length := (List.getElem?_eq_some_iff.mp h1).1
      rw [nI_clamp hn, nI_clamp (by decide)] at hP1 hD1
      exact V.arr (f' := f) q1 (List.getElem?_set_self hq) (fun j hj => by simp only [va_cpy]; rw [if_pos (by omega), show 0 + (j - 0) = j by omega]) (by rw [List.set_set]; exact hw) k H1 locs1 ls hP1 hD1 hS1 hls)
theorem V.new (E : Ev G A X cc own Ts nL) {C : String} {T : u_T} {N index : Nat} (ci : Nat) {fs : List Value} (hin : ∀ w ∈ u_ws C T N, w ∈ Ts) {ty0 : Nat → FieldType} (hty : ∀ k, k < N → parseFieldDescriptor (T k).2.2.1 = some (ty0 k)) (hc : vwCl[ci]? = some (C, T, N)) (hcl : Cond.classLink own index C ∈ Ts) (hinst : Cond.instantiable C N ∈ Ts) (hini : Cond.initialized C ∈ Ts) (hfs : ∀ j, j < N → defaultValue (ty0 j) = vp_V fs j) (hR : kc + 1 ≤ R.cells ∧ ks + N ≤ R.slots) (hdg : decode cc pc = .ok (.new index, 3))
    (k : ∀ q : Nat, V G A X R (ws ++ [(q, kO ci fs)]) (kc + 1) (ks + N) (pc + 3) lv (.ref q :: st)) : V G A X R ws kc ks pc lv st :=
  fun H locs ls hP hD hS hl => va_new E.1 E.2.1 E.2.2.2.2.1 hin ty0 hty E.2.2.2.1 (E.2.2.2.2.1 _ hcl) (E.2.2.2.2.1 _ hinst) (E.2.2.2.2.1 _ hini) E.2.2.2.2.2.1 hP hD hS E.2.2.2.2.2.2.1 hc hfs hR.1 hR.2 hdg (fun q H1 hP1 hD1 hS1 => k q H1 locs ls hP1 hD1 hS1 hl)
theorem tyOne {s : State} {c c' : ClassId} {ty : FieldType} (h : va_RA s c ty) (h' : va_RA s c' ty) : c' = c := by
  cases ty with
  | object C =>
    obtain ⟨_, _, _, _, _, e⟩ := h
    obtain ⟨_, _, _, _, _, e'⟩ := h'
    exact Option.some.inj (e'.symm.trans e)
  | _ => exact Option.some.inj (h'.symm.trans h)
theorem V.newa (E : Ev G A X cc own Ts nL) (t0 : Nat) {c : ClassId} {ty : FieldType} {atype : ArrayType} (ht : (TY G)[t0]? = some (c, ty)) (hty : newarray.typeOf atype = ty) (harr : Cond.arrayClass (newarray.typeOf atype) ∈ Ts) {n : Nat} (hn : n < 2 ^ 20) (hz : defaultValue ty = .int 0) (hcb : componentBytes ty = 4 ∨ componentBytes ty = 1) (hR : kc + 1 ≤ R.cells ∧ ks + n ≤ R.slots) (hdg : decode cc pc = .ok (.newarray atype, 2))
    (k : ∀ q : Nat, V G A X R (ws ++ [(q, kA c n (nA (fun _ => 0)))]) (kc + 1) (ks + n) (pc + 2) lv (.ref q :: st)) : V G A X R ws kc ks pc lv (.int (nI n) :: st) :=
  fun H locs ls hP hD hS hl => va_newa (a0 := (n, .inl (fun _ => 0))) E.1 E.2.1 (E.2.2.2.2.1 _ harr) hty E.2.2.2.2.2.1 hP hD hS E.2.2.2.2.2.2.1 (fun cA => by rw [hz]; rfl) (nI_pos (by omega)) (nI_clamp (by omega)) (by rcases hcb with h | h <;> rw [h] <;> omega) hR.1 hR.2 hdg (fun q cA H1 hK1 hP1 hD1 hS1 => by
    have e : cA = c := tyOne (E.2.2.2.2.2.1.2 t0 _ ht).2 (hK1.2 (TY G).length (cA, ty) (by rw [List.getElem?_append_right (Nat.le_refl _), Nat.sub_self]; rfl)).2
    subst e
    exact k q H1 locs ls hP1 hD1 hS1 hl)
theorem V.newq (E : Ev G A X cc own Ts nL) {index : Nat} (hcl : Cond.classLink own index RX2 ∈ Ts) {n : Nat} (hn : n < 2 ^ 20) (hR : kc + 1 ≤ R.cells ∧ ks + n ≤ R.slots) (hdg : decode cc pc = .ok (.anewarray index, 3))
    (k : ∀ q : Nat, V G A X R (ws ++ [(q, kQ (gS G) n (fun _ => none))]) (kc + 1) (ks + n) (pc + 3) lv (.ref q :: st)) : V G A X R ws kc ks pc lv (.int (nI n) :: st) :=
  fun H locs ls hP hD hS hl => va_newq E.1 E.2.1 E.2.2.2.1 (E.2.2.2.2.1 _ hcl) E.2.2.2.2.2.2.2.2.1 E.2.2.2.2.2.1 hP hD hS E.2.2.2.2.2.2.1 (nI_pos (by omega)) (nI_clamp (by omega)) (by omega) hR.1 hR.2 hdg (fun q cA H1 hK1 hP1 hD1 hS1 => by
    have e : cA = gS G := tyOne (E.2.2.2.2.2.1.2 2 _ rfl).2 (hK1.2 (TY G).length (cA, .object RX2) (by rw [List.getElem?_append_right (Nat.le_refl _), Nat.sub_self]; rfl)).2
    subst e
    exact k q H1 locs ls hP1 hD1 hS1 hl)
theorem V.objInit (E : Ev G A X cc own Ts nL) {a idx : Nat} (hlink : Cond.methodLink own idx objectInit ∈ Ts) (hinst : Cond.instanceMethod objectInit ∈ Ts) (hcode : Cond.code objectInit ⟨#[0xb1]⟩ 1 none ∈ Ts) (hnl : lv.length = nL) (hR : 1 ≤ R.frames ∧ (st.map fun v => v.category).sum + 12 ≤ R.locals) (hdg : decode cc pc = .ok (.invokespecial idx, 3)) (k : V G A X R ws kc ks (pc + 3) lv st) : V G A X R ws kc ks pc lv (.ref a :: st) :=
  fun H locs ls hP hD hS hl => W.objInit E.1 E.2.1 E.2.2.2.1 (E.2.2.2.2.1 _ hlink) (E.2.2.2.2.1 _ hinst) (E.2.2.2.2.1 _ hcode) rfl (by rw [E.2.2.1]; exact hl.1.trans hnl) rfl hdg hR.1 (by show 2 * 0 + _ + 12 ≤ _; omega) (k H locs ls hP hD hS hl)
end VNV
