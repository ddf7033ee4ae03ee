/-! THE JUDGEMENT V: the machine at a pc, with a world of cells, a list of locals and a stack, all in the goal. -/
abbrev VX : Type := Program × Launch × Env × State × MethodId × Array Value × List Frame × Method × Code × (State → Prop)
abbrev VC : Type := va_G × (ClassId × ClassId × ClassId) × (Nat × Nat)
abbrev gI (G : VC) : ClassId := G.2.1.1
abbrev gZ (G : VC) : ClassId := G.2.1.2.1
abbrev gS (G : VC) : ClassId := G.2.1.2.2
abbrev xs (X : VX) : State := X.2.2.2.1
abbrev xm (X : VX) : MethodId := X.2.2.2.2.1
abbrev xa (X : VX) : Array Value := X.2.2.2.2.2.1
abbrev xb (X : VX) : List Frame := X.2.2.2.2.2.2.1
abbrev xh (X : VX) : Method := X.2.2.2.2.2.2.2.1
abbrev xc (X : VX) : Code := X.2.2.2.2.2.2.2.2.1
abbrev xq (X : VX) : State → Prop := X.2.2.2.2.2.2.2.2.2
abbrev kA (c : ClassId) (n : Nat) (f : Nat → Int32) : va_E := .inl (c, n, .inl f)
abbrev kQ (c : ClassId) (n : Nat) (f : Nat → Option Nat) : va_E := .inl (c, n, .inr (.inr (.inr (.inr f))))
abbrev kO (ci : Nat) (fs : List Value) : va_E := .inr (ci, fs)
abbrev TY (G : VC) : List (ClassId × FieldType) := [(gI G, .int), (gZ G, .boolean), (gS G, .object RX2)]
def v_pairs : Nat → List (Option Value) → List (Nat × Value)
  | _, [] => []
  | i, none :: t => v_pairs (i + 1) t
  | i, some v :: t => (i, v) :: v_pairs (i + 1) t
theorem v_pairs_mem : ∀ (lv : List (Option Value)) (i : Nat) (q : Nat × Value), q ∈ v_pairs i lv ↔ i ≤ q.1 ∧ lv[q.1 - i]? = some (some q.2)
  | [], i, q => by simp [v_pairs]
  | none :: t, i, q => by
    rw [v_pairs, v_pairs_mem t (i + 1) q]
    constructor
    · rintro ⟨h1, h2⟩
      refine ⟨by omega, ?_⟩
      rw [show q.1 - i = (q.1 - (i + 1)) + 1 by omega, List.getElem?_cons_succ]
      exact h2
    · rintro ⟨h1, h2⟩
      rcases Nat.lt_or_ge i q.1 with h | h
      · refine ⟨h, ?_⟩
        rw [show q.1 - i = (q.1 - (i + 1)) + 1 by omega, List.getElem?_cons_succ] at h2
        exact h2
      · rw [show q.1 - i = 0 by omega, List.getElem?_cons_zero] at h2
        cases h2
  | some v :: t, i, q => by
    rw [v_pairs, List.mem_cons, v_pairs_mem t (i + 1) q]
    constructor
    · rintro (h | ⟨h1, h2⟩)
      · subst h
        simp
      · refine ⟨by omega, ?_⟩
        rw [show q.1 - i = (q.1 - (i + 1)) + 1 by omega, List.getElem?_cons_succ]
        exact h2
    · rintro ⟨h1, h2⟩
      rcases Nat.lt_or_ge i q.1 with h | h
      · refine Or.inr ⟨h, ?_⟩
        rw [show q.1 - i = (q.1 - (i + 1)) + 1 by omega, List.getElem?_cons_succ] at h2
        exact h2
      · rw [show q.1 - i = 0 by omega, List.getElem?_cons_zero] at h2
        cases h2
        exact Or.inl (Prod.ext (by show q.1 = i; omega) rfl)
def v_ls (ls : Array Slot) (lv : List (Option Value)) : Prop := lv_has ls lv.length (v_pairs 0 lv)
theorem v_get {ls : Array Slot} {lv : List (Option Value)} (h : v_ls ls lv) {i : Nat} {v : Value} (hi : lv[i]? = some (some v)) : ls[i]? = some (.val v) :=
  h.2.2 (i, v) ((v_pairs_mem lv 0 (i, v)).mpr ⟨Nat.zero_le _, hi⟩)
/-- no long stands just before the place -/
def v_ok : Nat → List (Option Value) → Bool
  | 0, _ => true
  | i + 1, lv => match lv[i]? with
    | some (some w) => w.category != 2
    | _ => true
theorem v_set1 {ls' : Array Slot} {lv : List (Option Value)} {i : Nat} {v : Value} (hi : i < lv.length) (hok : v_ok i lv = true) (h : lv_has ls' lv.length ((i, v) :: (v_pairs 0 lv).filter (fun q => !(q.1 == i) && !(q.1 + 1 == i && q.2.category == 2)))) : v_ls ls' (lv.set i (some v)) := by
  refine ⟨by rw [List.length_set]; exact h.1, h.2.1, fun q hq => ?_⟩
  have hq2 := ((v_pairs_mem _ 0 q).mp hq).2
  rw [Nat.sub_zero] at hq2
  by_cases hqi : q.1 = i
  · rw [hqi, List.getElem?_set_self hi] at hq2
    have e : q = (i, v) := Prod.ext hqi (Option.some.inj (Option.some.inj hq2)).symm
    rw [e]
    exact h.2.2 (i, v) List.mem_cons_self
  · rw [List.getElem?_set_ne (Ne.symm hqi)] at hq2
    refine h.2.2 q (List.mem_cons_of_mem _ (List.mem_filter.mpr ⟨(v_pairs_mem lv 0 q).mpr ⟨Nat.zero_le _, hq2⟩, ?_⟩))
    simp only [Bool.and_eq_true, Bool.not_eq_true', beq_eq_false_iff_ne, ne_eq, Bool.and_eq_false_iff]
    refine ⟨hqi, ?_⟩
    by_cases hq1 : q.1 + 1 = i
    · right
      subst hq1
      rw [v_ok, hq2] at hok
      simpa using hok
    · exact Or.inl hq1
theorem v_set2 {ls' : Array Slot} {lv : List (Option Value)} {i : Nat} {v : Value} (hi : i + 1 < lv.length) (hok : v_ok i lv = true) (h : lv_has ls' lv.length ((i, v) :: (v_pairs 0 lv).filter (fun q => !(q.1 == i) && (!(q.1 == i + 1) && !(q.1 + 1 == i && q.2.category == 2))))) : v_ls ls' ((lv.set i (some v)).set (i + 1) none) := by
  refine ⟨by rw [List.length_set, List.length_set]; exact h.1, h.2.1, fun q hq => ?_⟩
  have hq2 := ((v_pairs_mem _ 0 q).mp hq).2
  rw [Nat.sub_zero] at hq2
  by_cases hq1 : q.1 = i + 1
  · rw [hq1, List.getElem?_set_self (by rw [List.length_set]; exact hi)] at hq2
    cases hq2
  rw [List.getElem?_set_ne (Ne.symm hq1)] at hq2
  by_cases hqi : q.1 = i
  · rw [hqi, List.getElem?_set_self (by omega)] at hq2
    have e : q = (i, v) := Prod.ext hqi (Option.some.inj (Option.some.inj hq2)).symm
    rw [e]
    exact h.2.2 (i, v) List.mem_cons_self
  · rw [List.getElem?_set_ne (Ne.symm hqi)] at hq2
    refine h.2.2 q (List.mem_cons_of_mem _ (List.mem_filter.mpr ⟨(v_pairs_mem lv 0 q).mpr ⟨Nat.zero_le _, hq2⟩, ?_⟩))
    simp only [Bool.and_eq_true, Bool.not_eq_true', beq_eq_false_iff_ne, ne_eq, Bool.and_eq_false_iff]
    refine ⟨hqi, hq1, ?_⟩
    by_cases hq1 : q.1 + 1 = i
    · right
      subst hq1
      rw [v_ok, hq2] at hok
      simpa using hok
    · exact Or.inl hq1
/-! what every method may take as given: the nest mates' links, the arrays of scenes, the two static tables -/
def nWords : List Cond := [.methodLinkNest RX4 21 yX3_init "GlassSpill", .methodLinkNest RX4 31 yX1_init "GlassSpill", .methodLinkNest RX1 25 yX4_isPixel "GlassSpill", .methodLinkNest RX2 38 yX4_isSetting "GlassSpill", .methodLinkNest RX2 42 yX4_isPixel "GlassSpill", .methodLinkNest RX2 45 yX4_distance "GlassSpill", .methodLinkNest RX3 62 yX4_mainPart "GlassSpill", .methodLinkNest RX3 66 yX4_spillIn "GlassSpill", .methodLinkNest RX3 86 yX4_isAtEdge "GlassSpill", .methodLinkNest RX3 94 yX4_beside "GlassSpill", .methodLinkNest RX3 97 yX4_isPixel "GlassSpill", .methodLinkNest RX3 114 yX4_partShift "GlassSpill", .methodLinkNest RX3 120 yX4_composedColour "GlassSpill", .fieldLinkNest RX2 29 "GlassSpill" "FIRST_VALUES" "[I" "GlassSpill"]
def fv (j : Nat) : Nat := [6, 18, 16, 8, 4, 0].getD j 0
def hv (j : Nat) : Nat := [45, 45, 16, 16, 16, 1].getD j 0
def Gl (G : VC) (A : Nat → Prop) (U : State) (H : Heap) : Prop := (∀ w ∈ nWords, va_Nw w U) ∧ va_AO RX2 U ∧ va_Z RX4 "FIRST_VALUES" "[I" (.ref G.2.2.1) A U H ∧ va_T .int G.2.2.1 6 (fun j => .int (nI (fv j))) A U H ∧ va_Z RX4 "HIGHEST_VALUES" "[I" (.ref G.2.2.2) A U H ∧ va_T .int G.2.2.2 6 (fun j => .int (nI (hv j))) A U H
theorem nWarm : ∀ w ∈ nWords, ∀ (s U : State), s.WarmedH U.vm → va_Nw w s → va_Nw w U := by
  intro w hw s U hW h
  simp only [nWords, List.mem_cons, List.not_mem_nil, or_false] at hw
  rcases hw with rfl | rfl | rfl | rfl | rfl | rfl | rfl | rfl | rfl | rfl | rfl | rfl | rfl | rfl
  all_goals first | exact va_Nw.warmM hW h | exact va_Nw.warmF hW h
theorem nSame : ∀ w ∈ nWords, w.onTables = true := by
  intro w hw
  simp only [nWords, List.mem_cons, List.not_mem_nil, or_false] at hw
  rcases hw with rfl | rfl | rfl | rfl | rfl | rfl | rfl | rfl | rfl | rfl | rfl | rfl | rfl | rfl
  all_goals rfl
theorem Gl.go {G : VC} {A B : Nat → Prop} {s U : State} {H H1 : Heap} (h : Gl G A s H) (hW : s.WarmedH U.vm) (hq : ∀ a : Nat, a < H.size → ¬ A a → H1[a]? = H[a]?) (hAB : ∀ q, B q → A q) : Gl G B U H1 := by
  obtain ⟨h1, h2, h3, h4, h5, h6⟩ := h
  have hm := hW.alike
  exact ⟨fun w hw => nWarm w hw s U hW (h1 w hw), va_AO.moved hm h2, ((h3.kept hq).moved hm).narrow hAB, ((h4.kept hq).moved hm).narrow hAB, ((h5.kept hq).moved hm).narrow hAB, ((h6.kept hq).moved hm).narrow hAB⟩
theorem Gl.call {G : VC} {A : Nat → Prop} {U : State} {H : Heap} (h : Gl G A U H) (g : JFrame) (mk : MethodId) (a : Array Value) : Gl G A (U.calling g mk a) H := by
  obtain ⟨h1, h2, h3, h4, h5, h6⟩ := h
  have hm : U.vm.Alike (U.calling g mk a).vm := Vm.Alike.refl U.vm
  exact ⟨fun w hw => va_Nw.same (u := U) (U := U.calling g mk a) (nSame w hw) rfl (h1 w hw), va_AO.moved hm h2, h3.moved hm, h4.moved hm, h5.moved hm, h6.moved hm⟩
def V (G : VC) (A : Nat → Prop) (X : VX) (R : Room) (ws : va_W) (kc ks pc : Nat) (lv : List (Option Value)) (st : List Value) : Prop :=
  ∀ (H : Heap) (locs : List Loc) (ls : Array Slot), va_P G.1 vwCl ws H → va_D A ws → va_S A (xs X).heap H locs → v_ls ls lv → W X.1 X.2.1 X.2.2.1 R (xs X) (xm X) (xa X) (xb X) (xh X) (xc X) H locs kc ks (xq X) (F0 (xm X) pc ls st)
/-- what holds all through a method: the machine, its code, its class, its words, the classes, the statics -/
def Ev (G : VC) (A : Nat → Prop) (X : VX) (cc : ByteArray) (own : String) (Ts : List Cond) (nL : Nat) : Prop :=
  X.1.tables.exec = Jvm.exec ∧ (xc X).code = cc ∧ (xc X).maxLocals = nL ∧ (xs X).vm.findClass own = some (xm X).cls ∧ (∀ w ∈ Ts, w.before (xa X) (xs X) = true) ∧ va_K G.1 vwCl (TY G) (xs X) ∧ (∀ q, (xs X).heap.size ≤ q → A q) ∧ Gl G A (xs X) (xs X).heap
section VR
variable {G : VC} {A : Nat → Prop} {X : VX} {R : Room} {cc : ByteArray} {own : String} {Ts : List Cond} {nL : Nat} {ws : va_W} {kc ks pc : Nat} {lv : List (Option Value)} {st : List Value}
theorem V.widen {k n : Nat} (h1 : kc ≤ k) (h2 : ks ≤ n) (k1 : V G A X R ws k n pc lv st) : V G A X R ws kc ks pc lv st := fun H locs ls hP hD hS hl => W.widen h1 h2 (k1 H locs ls hP hD hS hl)
theorem V.top {x y : Int32} (h : x = y) (k : V G A X R ws kc ks pc lv (.int y :: st)) : V G A X R ws kc ks pc lv (.int x :: st) := by rw [h]; exact k
theorem V.topl {x y : Int64} (h : x = y) (k : V G A X R ws kc ks pc lv (.long y :: st)) : V G A X R ws kc ks pc lv (.long x :: st) := by rw [h]; exact k
theorem V.nm {x : Int32} (k : ∀ y : Int32, y = x → V G A X R ws kc ks pc lv (.int y :: st)) : V G A X R ws kc ks pc lv (.int x :: st) := k x rfl
theorem V.nmN {x : Nat} (k : ∀ y : Nat, y = x → V G A X R ws kc ks pc lv (.int (nI y) :: st)) : V G A X R ws kc ks pc lv (.int (nI x) :: st) := k x rfl
/-- fewer known locals -/
theorem V.forget {lv' : List (Option Value)} (hn : lv'.length = lv.length) (h : ∀ (i : Nat) (v : Value), lv'[i]? = some (some v) → lv[i]? = some (some v)) (k : V G A X R ws kc ks pc lv' st) : V G A X R ws kc ks pc lv st := by
  intro H locs ls hP hD hS hl
  refine k H locs ls hP hD hS ⟨by rw [hn]; exact hl.1, hl.2.1, fun q hq => ?_⟩
  have h1 := ((v_pairs_mem lv' 0 q).mp hq).2
  rw [Nat.sub_zero] at h1
  exact v_get hl (h _ _ h1)
def v_sub : List (Option Value) → List Bool → List (Option Value)
  | a :: l, b :: m => (if b then a else none) :: v_sub l m
  | [], _ => []
  | a :: l, [] => a :: l
theorem v_sub_len : ∀ (l : List (Option Value)) (m : List Bool), (v_sub l m).length = l.length
  | [], m => by cases m <;> rfl
  | a :: l, [] => rfl
  | a :: l, b :: m => by simp [v_sub, v_sub_len l m]
theorem v_sub_get : ∀ (l : List (Option Value)) (m : List Bool) (i : Nat) (v : Value), (v_sub l m)[i]? = some (some v) → l[i]? = some (some v)
  | [], m, i, v => by cases m <;> simp [v_sub]
  | a :: l, [], i, v => by simp [v_sub]
  | a :: l, b :: m, 0, v => by
    rw [v_sub, List.getElem?_cons_zero, List.getElem?_cons_zero]
    intro h
    cases b
    · cases h
    · exact h
  | a :: l, b :: m, i + 1, v => by
    rw [v_sub, List.getElem?_cons_succ, List.getElem?_cons_succ]
    exact v_sub_get l m i v
theorem V.drop {lv' : List (Option Value)} (m : List Bool) (h : v_sub lv m = lv') (k : V G A X R ws kc ks pc lv' st) : V G A X R ws kc ks pc lv st := by
  subst h
  exact V.forget (v_sub_len lv m) (fun i v h => v_sub_get lv m i v h) k

theorem V.iconst (E : Ev G A X cc own Ts nL) {n : Int} {v : Int32} (hdg : decode cc pc = .ok (.iconst n, 1)) (hv : Int32.ofInt n = v) (k : V G A X R ws kc ks (pc + 1) lv (.int v :: st)) : V G A X R ws kc ks pc lv (st) :=
  fun H locs ls hP hD hS hl => lv_iconst E.1 E.2.1 hdg hv (k H locs ls hP hD hS hl)
theorem V.bipush (E : Ev G A X cc own Ts nL) {n : Int} {v : Int32} (hdg : decode cc pc = .ok (.bipush n, 2)) (hv : (Int8.ofInt n).toInt32 = v) (k : V G A X R ws kc ks (pc + 2) lv (.int v :: st)) : V G A X R ws kc ks pc lv (st) :=
  fun H locs ls hP hD hS hl => lv_bipush E.1 E.2.1 hdg hv (k H locs ls hP hD hS hl)
theorem V.sipush (E : Ev G A X cc own Ts nL) {n : Int} {v : Int32} (hdg : decode cc pc = .ok (.sipush n, 3)) (hv : (Int16.ofInt n).toInt32 = v) (k : V G A X R ws kc ks (pc + 3) lv (.int v :: st)) : V G A X R ws kc ks pc lv (st) :=
  fun H locs ls hP hD hS hl => lv_sipush E.1 E.2.1 hdg hv (k H locs ls hP hD hS hl)
theorem V.lconst (E : Ev G A X cc own Ts nL) {n : Fin 2} {v : Int64} (hdg : decode cc pc = .ok (.lconst n, 1)) (hv : Int64.ofNat (n : Nat) = v) (k : V G A X R ws kc ks (pc + 1) lv (.long v :: st)) : V G A X R ws kc ks pc lv (st) :=
  fun H locs ls hP hD hS hl => lv_lconst E.1 E.2.1 hdg hv (k H locs ls hP hD hS hl)
theorem V.ldc (E : Ev G A X cc own Ts nL) {index : Nat} {v : Int32} (hw : Cond.constant own index v ∈ Ts) (hdg : decode cc pc = .ok (.ldc index, 2)) (k : V G A X R ws kc ks (pc + 2) lv (.int v :: st)) : V G A X R ws kc ks pc lv (st) :=
  fun H locs ls hP hD hS hl => lv_ldc E.1 E.2.1 E.2.2.2.1 (E.2.2.2.2.1 _ hw) hdg (k H locs ls hP hD hS hl)
theorem V.ldc2 (E : Ev G A X cc own Ts nL) {index : Nat} {v : Int64} (hw : Cond.constantLong own index v ∈ Ts) (hdg : decode cc pc = .ok (.ldc2_w index, 3)) (k : V G A X R ws kc ks (pc + 3) lv (.long v :: st)) : V G A X R ws kc ks pc lv (st) :=
  fun H locs ls hP hD hS hl => lv_ldc2 E.1 E.2.1 E.2.2.2.1 (E.2.2.2.2.1 _ hw) hdg (k H locs ls hP hD hS hl)
theorem V.iload_n (E : Ev G A X cc own Ts nL) {k0 : Fin 4} {i : Nat} {x : Int32} (hdg : decode cc pc = .ok (.iload_n k0, 1)) (hi : (k0 : Nat) = i) (hx : lv[i]? = some (some (.int x))) (k : V G A X R ws kc ks (pc + 1) lv (.int x :: st)) : V G A X R ws kc ks pc lv (st) :=
  fun H locs ls hP hD hS hl => lv_iload_n E.1 E.2.1 hdg hi (v_get hl hx) (k H locs ls hP hD hS hl)
theorem V.iload (E : Ev G A X cc own Ts nL) {i : Nat} {x : Int32} (hdg : decode cc pc = .ok (.iload i, 2)) (hx : lv[i]? = some (some (.int x))) (k : V G A X R ws kc ks (pc + 2) lv (.int x :: st)) : V G A X R ws kc ks pc lv (st) :=
  fun H locs ls hP hD hS hl => lv_iload E.1 E.2.1 hdg (v_get hl hx) (k H locs ls hP hD hS hl)
theorem V.lload_n (E : Ev G A X cc own Ts nL) {k0 : Fin 4} {i : Nat} {x : Int64} (hdg : decode cc pc = .ok (.lload_n k0, 1)) (hi : (k0 : Nat) = i) (hx : lv[i]? = some (some (.long x))) (k : V G A X R ws kc ks (pc + 1) lv (.long x :: st)) : V G A X R ws kc ks pc lv (st) :=
  fun H locs ls hP hD hS hl => lv_lload_n E.1 E.2.1 hdg hi (v_get hl hx) (k H locs ls hP hD hS hl)
theorem V.lload (E : Ev G A X cc own Ts nL) {i : Nat} {x : Int64} (hdg : decode cc pc = .ok (.lload i, 2)) (hx : lv[i]? = some (some (.long x))) (k : V G A X R ws kc ks (pc + 2) lv (.long x :: st)) : V G A X R ws kc ks pc lv (st) :=
  fun H locs ls hP hD hS hl => lv_lload E.1 E.2.1 hdg (v_get hl hx) (k H locs ls hP hD hS hl)
theorem V.aload_n (E : Ev G A X cc own Ts nL) {k0 : Fin 4} {i : Nat} {x : Nat} (hdg : decode cc pc = .ok (.aload_n k0, 1)) (hi : (k0 : Nat) = i) (hx : lv[i]? = some (some (.ref x))) (k : V G A X R ws kc ks (pc + 1) lv (.ref x :: st)) : V G A X R ws kc ks pc lv (st) :=
  fun H locs ls hP hD hS hl => lv_aload_n E.1 E.2.1 hdg hi (v_get hl hx) (k H locs ls hP hD hS hl)
theorem V.aload (E : Ev G A X cc own Ts nL) {i : Nat} {x : Nat} (hdg : decode cc pc = .ok (.aload i, 2)) (hx : lv[i]? = some (some (.ref x))) (k : V G A X R ws kc ks (pc + 2) lv (.ref x :: st)) : V G A X R ws kc ks pc lv (st) :=
  fun H locs ls hP hD hS hl => lv_aload E.1 E.2.1 hdg (v_get hl hx) (k H locs ls hP hD hS hl)
theorem V.aload_nN (E : Ev G A X cc own Ts nL) {k0 : Fin 4} {i : Nat} (hdg : decode cc pc = .ok (.aload_n k0, 1)) (hi : (k0 : Nat) = i) (hx : lv[i]? = some (some .null)) (k : V G A X R ws kc ks (pc + 1) lv (.null :: st)) : V G A X R ws kc ks pc lv (st) :=
  fun H locs ls hP hD hS hl => lv_aload_nN E.1 E.2.1 hdg hi (v_get hl hx) (k H locs ls hP hD hS hl)
theorem V.istore_n (E : Ev G A X cc own Ts nL) {k0 : Fin 4} {i : Nat} {x : Int32} {lv' : List (Option Value)} (hdg : decode cc pc = .ok (.istore_n k0, 1)) (hi : (k0 : Nat) = i) (hn : i < lv.length) (hok : v_ok i lv = true) (hlv : lv.set i (some (.int x)) = lv') (k : V G A X R ws kc ks (pc + 1) lv' st) : V G A X R ws kc ks pc lv (.int x :: st) :=
  fun H locs ls hP hD hS hl => lv_istore_n E.1 E.2.1 hdg hi hl hn rfl (fun ls' hl' => k H locs ls' hP hD hS (hlv ▸ v_set1 hn hok hl'))
theorem V.istore (E : Ev G A X cc own Ts nL) {i : Nat} {x : Int32} {lv' : List (Option Value)} (hdg : decode cc pc = .ok (.istore i, 2)) (hn : i < lv.length) (hok : v_ok i lv = true) (hlv : lv.set i (some (.int x)) = lv') (k : V G A X R ws kc ks (pc + 2) lv' st) : V G A X R ws kc ks pc lv (.int x :: st) :=
  fun H locs ls hP hD hS hl => lv_istore E.1 E.2.1 hdg hl hn rfl (fun ls' hl' => k H locs ls' hP hD hS (hlv ▸ v_set1 hn hok hl'))
theorem V.lstore_n (E : Ev G A X cc own Ts nL) {k0 : Fin 4} {i : Nat} {x : Int64} {lv' : List (Option Value)} (hdg : decode cc pc = .ok (.lstore_n k0, 1)) (hi : (k0 : Nat) = i) (hn : i + 1 < lv.length) (hok : v_ok i lv = true) (hlv : (lv.set i (some (.long x))).set (i + 1) none = lv') (k : V G A X R ws kc ks (pc + 1) lv' st) : V G A X R ws kc ks pc lv (.long x :: st) :=
  fun H locs ls hP hD hS hl => lv_lstore_n E.1 E.2.1 hdg hi hl hn rfl (fun ls' hl' => k H locs ls' hP hD hS (hlv ▸ v_set2 hn hok hl'))
theorem V.astore_n (E : Ev G A X cc own Ts nL) {k0 : Fin 4} {i : Nat} {x : Nat} {lv' : List (Option Value)} (hdg : decode cc pc = .ok (.astore_n k0, 1)) (hi : (k0 : Nat) = i) (hn : i < lv.length) (hok : v_ok i lv = true) (hlv : lv.set i (some (.ref x)) = lv') (k : V G A X R ws kc ks (pc + 1) lv' st) : V G A X R ws kc ks pc lv (.ref x :: st) :=
  fun H locs ls hP hD hS hl => lv_astore_n E.1 E.2.1 hdg hi hl hn rfl (fun ls' hl' => k H locs ls' hP hD hS (hlv ▸ v_set1 hn hok hl'))
theorem V.astore (E : Ev G A X cc own Ts nL) {i : Nat} {x : Nat} {lv' : List (Option Value)} (hdg : decode cc pc = .ok (.astore i, 2)) (hn : i < lv.length) (hok : v_ok i lv = true) (hlv : lv.set i (some (.ref x)) = lv') (k : V G A X R ws kc ks (pc + 2) lv' st) : V G A X R ws kc ks pc lv (.ref x :: st) :=
  fun H locs ls hP hD hS hl => lv_astore E.1 E.2.1 hdg hl hn rfl (fun ls' hl' => k H locs ls' hP hD hS (hlv ▸ v_set1 hn hok hl'))
theorem V.astore_nN (E : Ev G A X cc own Ts nL) {k0 : Fin 4} {i : Nat}  {lv' : List (Option Value)} (hdg : decode cc pc = .ok (.astore_n k0, 1)) (hi : (k0 : Nat) = i) (hn : i < lv.length) (hok : v_ok i lv = true) (hlv : lv.set i (some (.null)) = lv') (k : V G A X R ws kc ks (pc + 1) lv' st) : V G A X R ws kc ks pc lv (.null :: st) :=
  fun H locs ls hP hD hS hl => lv_astore_nN E.1 E.2.1 hdg hi hl hn rfl (fun ls' hl' => k H locs ls' hP hD hS (hlv ▸ v_set1 hn hok hl'))
theorem V.iinc (E : Ev G A X cc own Ts nL) {i : Nat} {n : Int} {x v : Int32} {lv' : List (Option Value)} (hdg : decode cc pc = .ok (.iinc i n, 3)) (hx : lv[i]? = some (some (.int x))) (hv : x + Int32.ofInt n = v) (hn : i < lv.length) (hok : v_ok i lv = true) (hlv : lv.set i (some (.int v)) = lv') (k : V G A X R ws kc ks (pc + 3) lv' st) : V G A X R ws kc ks pc lv st := by
  intro H locs ls hP hD hS hl
  obtain ⟨q, hq⟩ := List.getElem?_of_mem ((v_pairs_mem lv 0 (i, .int x)).mpr ⟨Nat.zero_le _, hx⟩)
  exact lv_iinc E.1 E.2.1 hdg hl hq hv hn rfl (fun ls' hl' => k H locs ls' hP hD hS (hlv ▸ v_set1 hn hok hl'))
theorem V.iadd (E : Ev G A X cc own Ts nL) {x y : Int32} (hdg : decode cc pc = .ok (.iadd, 1)) (k : V G A X R ws kc ks (pc + 1) lv (.int (x + y) :: st)) : V G A X R ws kc ks pc lv (.int y :: .int x :: st) :=
  fun H locs ls hP hD hS hl => lv_iadd E.1 E.2.1 hdg (k H locs ls hP hD hS hl)
theorem V.isub (E : Ev G A X cc own Ts nL) {x y : Int32} (hdg : decode cc pc = .ok (.isub, 1)) (k : V G A X R ws kc ks (pc + 1) lv (.int (x - y) :: st)) : V G A X R ws kc ks pc lv (.int y :: .int x :: st) :=
  fun H locs ls hP hD hS hl => lv_isub E.1 E.2.1 hdg (k H locs ls hP hD hS hl)
theorem V.imul (E : Ev G A X cc own Ts nL) {x y : Int32} (hdg : decode cc pc = .ok (.imul, 1)) (k : V G A X R ws kc ks (pc + 1) lv (.int (x * y) :: st)) : V G A X R ws kc ks pc lv (.int y :: .int x :: st) :=
  fun H locs ls hP hD hS hl => lv_imul E.1 E.2.1 hdg (k H locs ls hP hD hS hl)
theorem V.iand (E : Ev G A X cc own Ts nL) {x y : Int32} (hdg : decode cc pc = .ok (.iand, 1)) (k : V G A X R ws kc ks (pc + 1) lv (.int (x &&& y) :: st)) : V G A X R ws kc ks pc lv (.int y :: .int x :: st) :=
  fun H locs ls hP hD hS hl => lv_iand E.1 E.2.1 hdg (k H locs ls hP hD hS hl)
theorem V.ior (E : Ev G A X cc own Ts nL) {x y : Int32} (hdg : decode cc pc = .ok (.ior, 1)) (k : V G A X R ws kc ks (pc + 1) lv (.int (x ||| y) :: st)) : V G A X R ws kc ks pc lv (.int y :: .int x :: st) :=
  fun H locs ls hP hD hS hl => lv_ior E.1 E.2.1 hdg (k H locs ls hP hD hS hl)
theorem V.ixor (E : Ev G A X cc own Ts nL) {x y : Int32} (hdg : decode cc pc = .ok (.ixor, 1)) (k : V G A X R ws kc ks (pc + 1) lv (.int (x ^^^ y) :: st)) : V G A X R ws kc ks pc lv (.int y :: .int x :: st) :=
  fun H locs ls hP hD hS hl => lv_ixor E.1 E.2.1 hdg (k H locs ls hP hD hS hl)
theorem V.ishl (E : Ev G A X cc own Ts nL) {x y : Int32} (hdg : decode cc pc = .ok (.ishl, 1)) (k : V G A X R ws kc ks (pc + 1) lv (.int (x <<< (y &&& 31)) :: st)) : V G A X R ws kc ks pc lv (.int y :: .int x :: st) :=
  fun H locs ls hP hD hS hl => lv_ishl E.1 E.2.1 hdg (k H locs ls hP hD hS hl)
theorem V.ishr (E : Ev G A X cc own Ts nL) {x y : Int32} (hdg : decode cc pc = .ok (.ishr, 1)) (k : V G A X R ws kc ks (pc + 1) lv (.int (x >>> (y &&& 31)) :: st)) : V G A X R ws kc ks pc lv (.int y :: .int x :: st) :=
  fun H locs ls hP hD hS hl => lv_ishr E.1 E.2.1 hdg (k H locs ls hP hD hS hl)
theorem V.ineg (E : Ev G A X cc own Ts nL) {x : Int32} (hdg : decode cc pc = .ok (.ineg, 1)) (k : V G A X R ws kc ks (pc + 1) lv (.int (-x) :: st)) : V G A X R ws kc ks pc lv (.int x :: st) :=
  fun H locs ls hP hD hS hl => lv_ineg E.1 E.2.1 hdg (k H locs ls hP hD hS hl)
theorem V.idiv (E : Ev G A X cc own Ts nL) {x y : Int32} (hdg : decode cc pc = .ok (.idiv, 1)) (hne : ¬ y = 0) (k : V G A X R ws kc ks (pc + 1) lv (.int (x / y) :: st)) : V G A X R ws kc ks pc lv (.int y :: .int x :: st) :=
  fun H locs ls hP hD hS hl => lv_idiv E.1 E.2.1 hdg hne (k H locs ls hP hD hS hl)
theorem V.irem (E : Ev G A X cc own Ts nL) {x y : Int32} (hdg : decode cc pc = .ok (.irem, 1)) (hne : ¬ y = 0) (k : V G A X R ws kc ks (pc + 1) lv (.int (x - x / y * y) :: st)) : V G A X R ws kc ks pc lv (.int y :: .int x :: st) :=
  fun H locs ls hP hD hS hl => lv_irem E.1 E.2.1 hdg hne (k H locs ls hP hD hS hl)
theorem V.land (E : Ev G A X cc own Ts nL) {x y : Int64} (hdg : decode cc pc = .ok (.land, 1)) (k : V G A X R ws kc ks (pc + 1) lv (.long (x &&& y) :: st)) : V G A X R ws kc ks pc lv (.long y :: .long x :: st) :=
  fun H locs ls hP hD hS hl => lv_land E.1 E.2.1 hdg (k H locs ls hP hD hS hl)
theorem V.lor (E : Ev G A X cc own Ts nL) {x y : Int64} (hdg : decode cc pc = .ok (.lor, 1)) (k : V G A X R ws kc ks (pc + 1) lv (.long (x ||| y) :: st)) : V G A X R ws kc ks pc lv (.long y :: .long x :: st) :=
  fun H locs ls hP hD hS hl => lv_lor E.1 E.2.1 hdg (k H locs ls hP hD hS hl)
theorem V.i2l (E : Ev G A X cc own Ts nL) {x : Int32} {v : Int64} (hdg : decode cc pc = .ok (.i2l, 1)) (hv : x.toInt64 = v) (k : V G A X R ws kc ks (pc + 1) lv (.long v :: st)) : V G A X R ws kc ks pc lv (.int x :: st) :=
  fun H locs ls hP hD hS hl => lv_i2l E.1 E.2.1 hdg hv (k H locs ls hP hD hS hl)
theorem V.l2i (E : Ev G A X cc own Ts nL) {x : Int64} {v : Int32} (hdg : decode cc pc = .ok (.l2i, 1)) (hv : x.toInt32 = v) (k : V G A X R ws kc ks (pc + 1) lv (.int v :: st)) : V G A X R ws kc ks pc lv (.long x :: st) :=
  fun H locs ls hP hD hS hl => lv_l2i E.1 E.2.1 hdg hv (k H locs ls hP hD hS hl)
theorem V.lushr (E : Ev G A X cc own Ts nL) {x v : Int64} {y : Int32} (hdg : decode cc pc = .ok (.lushr, 1)) (hv : (x.toUInt64 >>> (y.toInt64.toUInt64 &&& Int64.toUInt64 63)).toInt64 = v) (k : V G A X R ws kc ks (pc + 1) lv (.long v :: st)) : V G A X R ws kc ks pc lv (.int y :: .long x :: st) :=
  fun H locs ls hP hD hS hl => lv_lushr E.1 E.2.1 hdg hv (k H locs ls hP hD hS hl)
theorem V.lshl (E : Ev G A X cc own Ts nL) {x v : Int64} {y : Int32} (hdg : decode cc pc = .ok (.lshl, 1)) (hv : x <<< (y.toInt64 &&& 63) = v) (k : V G A X R ws kc ks (pc + 1) lv (.long v :: st)) : V G A X R ws kc ks pc lv (.int y :: .long x :: st) :=
  fun H locs ls hP hD hS hl => lv_lshl E.1 E.2.1 hdg hv (k H locs ls hP hD hS hl)
theorem V.lcmp (E : Ev G A X cc own Ts nL) {x y : Int64} (hdg : decode cc pc = .ok (.lcmp, 1)) (k : V G A X R ws kc ks (pc + 1) lv (.int (lg_cmp x y) :: st)) : V G A X R ws kc ks pc lv (.long y :: .long x :: st) :=
  fun H locs ls hP hD hS hl => W.lcmp E.1 E.2.1 hdg (k H locs ls hP hD hS hl)
theorem V.dup (E : Ev G A X cc own Ts nL) {va : Value} (hdg : decode cc pc = .ok (.dup, 1)) (h1 : va.category = 1) (k : V G A X R ws kc ks (pc + 1) lv (va :: va :: st)) : V G A X R ws kc ks pc lv (va :: st) :=
  fun H locs ls hP hD hS hl => lv_dup E.1 E.2.1 hdg h1 (k H locs ls hP hD hS hl)
theorem V.pop (E : Ev G A X cc own Ts nL) {va : Value} (hdg : decode cc pc = .ok (.pop, 1)) (h1 : va.category = 1) (k : V G A X R ws kc ks (pc + 1) lv (st)) : V G A X R ws kc ks pc lv (va :: st) :=
  fun H locs ls hP hD hS hl => lv_pop E.1 E.2.1 hdg h1 (k H locs ls hP hD hS hl)
theorem V.dup_x1 (E : Ev G A X cc own Ts nL) {va vb : Value} (hdg : decode cc pc = .ok (.dup_x1, 1)) (h1 : va.category = 1) (h2 : vb.category = 1) (k : V G A X R ws kc ks (pc + 1) lv (va :: vb :: va :: st)) : V G A X R ws kc ks pc lv (va :: vb :: st) :=
  fun H locs ls hP hD hS hl => lv_dup_x1 E.1 E.2.1 hdg h1 h2 (k H locs ls hP hD hS hl)
theorem V.dup_x2 (E : Ev G A X cc own Ts nL) {va vb vd : Value} (hdg : decode cc pc = .ok (.dup_x2, 1)) (h1 : va.category = 1) (h2 : vb.category = 1) (h3 : vd.category = 1) (k : V G A X R ws kc ks (pc + 1) lv (va :: vb :: vd :: va :: st)) : V G A X R ws kc ks pc lv (va :: vb :: vd :: st) :=
  fun H locs ls hP hD hS hl => lv_dup_x2 E.1 E.2.1 hdg h1 h2 h3 (k H locs ls hP hD hS hl)
theorem V.dup2 (E : Ev G A X cc own Ts nL) {va vb : Value} (hdg : decode cc pc = .ok (.dup2, 1)) (h1 : va.category = 1) (h2 : vb.category = 1) (k : V G A X R ws kc ks (pc + 1) lv (va :: vb :: va :: vb :: st)) : V G A X R ws kc ks pc lv (va :: vb :: st) :=
  fun H locs ls hP hD hS hl => lv_dup2_11 E.1 E.2.1 hdg h1 h2 (k H locs ls hP hD hS hl)
theorem V.goto (E : Ev G A X cc own Ts nL) {off : Int} {tgt : Nat} (hdg : decode cc pc = .ok (.goto off, 3)) (ht : (pc : Int) + off = (tgt : Int)) (k : V G A X R ws kc ks tgt lv (st)) : V G A X R ws kc ks pc lv (st) :=
  fun H locs ls hP hD hS hl => lv_goto E.1 E.2.1 hdg ht (k H locs ls hP hD hS hl)
theorem V.ifnonnull (E : Ev G A X cc own Ts nL) {x : Nat} {off : Int} {tgt : Nat} (hdg : decode cc pc = .ok (.ifnonnull off, 3)) (ht : (pc : Int) + off = (tgt : Int)) (k : V G A X R ws kc ks tgt lv (st)) : V G A X R ws kc ks pc lv (.ref x :: st) :=
  fun H locs ls hP hD hS hl => lv_ifnonnull E.1 E.2.1 hdg ht (k H locs ls hP hD hS hl)
theorem V.ifnonnullN (E : Ev G A X cc own Ts nL) {off : Int} (hdg : decode cc pc = .ok (.ifnonnull off, 3)) (k : V G A X R ws kc ks (pc + 3) lv (st)) : V G A X R ws kc ks pc lv (.null :: st) :=
  fun H locs ls hP hD hS hl => lv_ifnonnullN E.1 E.2.1 hdg (k H locs ls hP hD hS hl)
theorem V.ifnull (E : Ev G A X cc own Ts nL) {x : Nat} {off : Int} (hdg : decode cc pc = .ok (.ifnull off, 3)) (k : V G A X R ws kc ks (pc + 3) lv (st)) : V G A X R ws kc ks pc lv (.ref x :: st) :=
  fun H locs ls hP hD hS hl => lv_ifnull E.1 E.2.1 hdg (k H locs ls hP hD hS hl)
theorem V.ifnullN (E : Ev G A X cc own Ts nL) {off : Int} {tgt : Nat} (hdg : decode cc pc = .ok (.ifnull off, 3)) (ht : (pc : Int) + off = (tgt : Int)) (k : V G A X R ws kc ks tgt lv (st)) : V G A X R ws kc ks pc lv (.null :: st) :=
  fun H locs ls hP hD hS hl => lv_ifnullN E.1 E.2.1 hdg ht (k H locs ls hP hD hS hl)
theorem V.if_eq (E : Ev G A X cc own Ts nL) {x : Int32} {off : Int} {tgt : Nat} (hdg : decode cc pc = .ok (.ifCond .eq off, 3)) (ht : (pc : Int) + off = (tgt : Int)) (kt : x = 0 → V G A X R ws kc ks tgt lv st) (kf : ¬ x = 0 → V G A X R ws kc ks (pc + 3) lv st) : V G A X R ws kc ks pc lv (.int x :: st) :=
  fun H locs ls hP hD hS hl => lv_if_eq E.1 E.2.1 hdg ht (fun h => kt h H locs ls hP hD hS hl) (fun h => kf h H locs ls hP hD hS hl)
theorem V.icmp_eq (E : Ev G A X cc own Ts nL) {x y : Int32} {off : Int} {tgt : Nat} (hdg : decode cc pc = .ok (.if_icmp .eq off, 3)) (ht : (pc : Int) + off = (tgt : Int)) (kt : x = y → V G A X R ws kc ks tgt lv st) (kf : ¬ x = y → V G A X R ws kc ks (pc + 3) lv st) : V G A X R ws kc ks pc lv (.int y :: .int x :: st) :=
  fun H locs ls hP hD hS hl => lv_icmp_eq E.1 E.2.1 hdg ht (fun h => kt h H locs ls hP hD hS hl) (fun h => kf h H locs ls hP hD hS hl)
theorem V.if_ne (E : Ev G A X cc own Ts nL) {x : Int32} {off : Int} {tgt : Nat} (hdg : decode cc pc = .ok (.ifCond .ne off, 3)) (ht : (pc : Int) + off = (tgt : Int)) (kt : ¬ x = 0 → V G A X R ws kc ks tgt lv st) (kf : x = 0 → V G A X R ws kc ks (pc + 3) lv st) : V G A X R ws kc ks pc lv (.int x :: st) :=
  fun H locs ls hP hD hS hl => lv_if_ne E.1 E.2.1 hdg ht (fun h => kt h H locs ls hP hD hS hl) (fun h => kf h H locs ls hP hD hS hl)
theorem V.icmp_ne (E : Ev G A X cc own Ts nL) {x y : Int32} {off : Int} {tgt : Nat} (hdg : decode cc pc = .ok (.if_icmp .ne off, 3)) (ht : (pc : Int) + off = (tgt : Int)) (kt : ¬ x = y → V G A X R ws kc ks tgt lv st) (kf : x = y → V G A X R ws kc ks (pc + 3) lv st) : V G A X R ws kc ks pc lv (.int y :: .int x :: st) :=
  fun H locs ls hP hD hS hl => lv_icmp_ne E.1 E.2.1 hdg ht (fun h => kt h H locs ls hP hD hS hl) (fun h => kf h H locs ls hP hD hS hl)
theorem V.if_lt (E : Ev G A X cc own Ts nL) {x : Int32} {off : Int} {tgt : Nat} (hdg : decode cc pc = .ok (.ifCond .lt off, 3)) (ht : (pc : Int) + off = (tgt : Int)) (kt : x < 0 → V G A X R ws kc ks tgt lv st) (kf : ¬ x < 0 → V G A X R ws kc ks (pc + 3) lv st) : V G A X R ws kc ks pc lv (.int x :: st) :=
  fun H locs ls hP hD hS hl => lv_if_lt E.1 E.2.1 hdg ht (fun h => kt h H locs ls hP hD hS hl) (fun h => kf h H locs ls hP hD hS hl)
theorem V.icmp_lt (E : Ev G A X cc own Ts nL) {x y : Int32} {off : Int} {tgt : Nat} (hdg : decode cc pc = .ok (.if_icmp .lt off, 3)) (ht : (pc : Int) + off = (tgt : Int)) (kt : x < y → V G A X R ws kc ks tgt lv st) (kf : ¬ x < y → V G A X R ws kc ks (pc + 3) lv st) : V G A X R ws kc ks pc lv (.int y :: .int x :: st) :=
  fun H locs ls hP hD hS hl => lv_icmp_lt E.1 E.2.1 hdg ht (fun h => kt h H locs ls hP hD hS hl) (fun h => kf h H locs ls hP hD hS hl)
theorem V.if_ge (E : Ev G A X cc own Ts nL) {x : Int32} {off : Int} {tgt : Nat} (hdg : decode cc pc = .ok (.ifCond .ge off, 3)) (ht : (pc : Int) + off = (tgt : Int)) (kt : 0 ≤ x → V G A X R ws kc ks tgt lv st) (kf : ¬ 0 ≤ x → V G A X R ws kc ks (pc + 3) lv st) : V G A X R ws kc ks pc lv (.int x :: st) :=
  fun H locs ls hP hD hS hl => lv_if_ge E.1 E.2.1 hdg ht (fun h => kt h H locs ls hP hD hS hl) (fun h => kf h H locs ls hP hD hS hl)
theorem V.icmp_ge (E : Ev G A X cc own Ts nL) {x y : Int32} {off : Int} {tgt : Nat} (hdg : decode cc pc = .ok (.if_icmp .ge off, 3)) (ht : (pc : Int) + off = (tgt : Int)) (kt : y ≤ x → V G A X R ws kc ks tgt lv st) (kf : ¬ y ≤ x → V G A X R ws kc ks (pc + 3) lv st) : V G A X R ws kc ks pc lv (.int y :: .int x :: st) :=
  fun H locs ls hP hD hS hl => lv_icmp_ge E.1 E.2.1 hdg ht (fun h => kt h H locs ls hP hD hS hl) (fun h => kf h H locs ls hP hD hS hl)
theorem V.if_gt (E : Ev G A X cc own Ts nL) {x : Int32} {off : Int} {tgt : Nat} (hdg : decode cc pc = .ok (.ifCond .gt off, 3)) (ht : (pc : Int) + off = (tgt : Int)) (kt : 0 < x → V G A X R ws kc ks tgt lv st) (kf : ¬ 0 < x → V G A X R ws kc ks (pc + 3) lv st) : V G A X R ws kc ks pc lv (.int x :: st) :=
  fun H locs ls hP hD hS hl => lv_if_gt E.1 E.2.1 hdg ht (fun h => kt h H locs ls hP hD hS hl) (fun h => kf h H locs ls hP hD hS hl)
theorem V.icmp_gt (E : Ev G A X cc own Ts nL) {x y : Int32} {off : Int} {tgt : Nat} (hdg : decode cc pc = .ok (.if_icmp .gt off, 3)) (ht : (pc : Int) + off = (tgt : Int)) (kt : y < x → V G A X R ws kc ks tgt lv st) (kf : ¬ y < x → V G A X R ws kc ks (pc + 3) lv st) : V G A X R ws kc ks pc lv (.int y :: .int x :: st) :=
  fun H locs ls hP hD hS hl => lv_icmp_gt E.1 E.2.1 hdg ht (fun h => kt h H locs ls hP hD hS hl) (fun h => kf h H locs ls hP hD hS hl)
theorem V.if_le (E : Ev G A X cc own Ts nL) {x : Int32} {off : Int} {tgt : Nat} (hdg : decode cc pc = .ok (.ifCond .le off, 3)) (ht : (pc : Int) + off = (tgt : Int)) (kt : x ≤ 0 → V G A X R ws kc ks tgt lv st) (kf : ¬ x ≤ 0 → V G A X R ws kc ks (pc + 3) lv st) : V G A X R ws kc ks pc lv (.int x :: st) :=
  fun H locs ls hP hD hS hl => lv_if_le E.1 E.2.1 hdg ht (fun h => kt h H locs ls hP hD hS hl) (fun h => kf h H locs ls hP hD hS hl)
theorem V.icmp_le (E : Ev G A X cc own Ts nL) {x y : Int32} {off : Int} {tgt : Nat} (hdg : decode cc pc = .ok (.if_icmp .le off, 3)) (ht : (pc : Int) + off = (tgt : Int)) (kt : x ≤ y → V G A X R ws kc ks tgt lv st) (kf : ¬ x ≤ y → V G A X R ws kc ks (pc + 3) lv st) : V G A X R ws kc ks pc lv (.int y :: .int x :: st) :=
  fun H locs ls hP hD hS hl => lv_icmp_le E.1 E.2.1 hdg ht (fun h => kt h H locs ls hP hD hS hl) (fun h => kf h H locs ls hP hD hS hl)
theorem V.tableOut (E : Ev G A X cc own Ts nL) {dflt lo hi : Int} {offs : Array Int} {len : Nat} {x : Int32} {tgt : Nat} (hdg : decode cc pc = .ok (.tableswitch dflt lo hi offs, len)) (h : x.toInt < lo ∨ hi < x.toInt) (ht : (pc : Int) + dflt = (tgt : Int)) (k : V G A X R ws kc ks tgt lv st) : V G A X R ws kc ks pc lv (.int x :: st) :=
  fun H locs ls hP hD hS hl => lv_tableOut E.1 E.2.1 hdg h ht (k H locs ls hP hD hS hl)
theorem V.tableIn (E : Ev G A X cc own Ts nL) {dflt lo hi : Int} {offs : Array Int} {len : Nat} {x : Int32} {off : Int} {tgt : Nat} (hdg : decode cc pc = .ok (.tableswitch dflt lo hi offs, len)) (h1 : ¬ x.toInt < lo) (h2 : ¬ hi < x.toInt) (ho : offs[(x.toInt - lo).toNat]? = some off) (ht : (pc : Int) + off = (tgt : Int)) (k : V G A X R ws kc ks tgt lv st) : V G A X R ws kc ks pc lv (.int x :: st) :=
  fun H locs ls hP hD hS hl => lv_tableIn E.1 E.2.1 hdg h1 h2 ho ht (k H locs ls hP hD hS hl)
theorem V.getf (E : Ev G A X cc own Ts nL) {ref C : String} {T : u_T} {N index : Nat} {a : Nat} (q0 ci k0 : Nat) {fs : List Value} (hin : ∀ w ∈ u_ws C T N, w ∈ Ts) (he : ws[q0]? = some (a, .inr (ci, fs))) (hc : vwCl[ci]? = some (C, T, N)) (hk : k0 < N) (hlink : Cond.fieldLink own index ref (T k0).2.1 (T k0).2.2.1 ∈ Ts) (href : (T k0).1 = ref) {v : Value} (hv : fs[k0]? = some v) (hdg : decode cc pc = .ok (.getfield index, 3)) (k : V G A X R ws kc ks (pc + 3) lv (v :: st)) : V G A X R ws kc ks pc lv (.ref a :: st) :=
  fun H locs ls hP hD hS hl => va_get E.1 E.2.1 E.2.2.2.2.1 hin E.2.2.2.1 E.2.2.2.2.2.1 hP q0 he hc k0 hk (E.2.2.2.2.1 _ hlink) (fun x h => by rw [← href]; exact h) hv hdg (k H locs ls hP hD hS hl)
theorem V.putf (E : Ev G A X cc own Ts nL) {ref C : String} {T : u_T} {N index : Nat} {a : Nat} (q0 ci k0 : Nat) {fs : List Value} {ws' : va_W} (hin : ∀ w ∈ u_ws C T N, w ∈ Ts) {ty0 : Nat → FieldType} (hty : ∀ k, k < N → parseFieldDescriptor (T k).2.2.1 = some (ty0 k)) (hnm : ∀ a, a < N → ∀ b, b < N → a ≠ b → (T a).2.1 ≠ (T b).2.1) (he : ws[q0]? = some (a, .inr (ci, fs))) (hc : vwCl[ci]? = some (C, T, N)) (hk : k0 < N) (hlink : Cond.fieldLink own index ref (T k0).2.1 (T k0).2.2.1 ∈ Ts) (href : (T k0).1 = ref) (hfin : (T k0).2.2.2 = false) {v : Value} (hn : narrow (ty0 k0) v = v) (hfit : fits (ty0 k0) v = true) (hl0 : k0 < fs.length) (hdg : decode cc pc = .ok (.putfield index, 3)) (hw : ws.set q0 (a, .inr (ci, fs.set k0 v)) = ws') (k : V G A X R ws' kc ks (pc + 3) lv st) : V G A X R ws kc ks pc lv (v :: .ref a :: st) :=
  fun H locs ls hP hD hS hl => va_put E.1 E.2.1 E.2.2.2.2.1 hin ty0 hty hnm E.2.2.2.1 E.2.2.2.2.2.1 hP hD hS q0 he hc k0 hk (E.2.2.2.2.1 _ hlink) (fun x h => by rw [← href]; exact h) hfin (hty k0 hk) hn hfit hl0 hdg (fun H1 locs1 hP1 hD1 hS1 => k H1 locs1 ls (hw ▸ hP1) (hw ▸ hD1) hS1 hl)
theorem V.putF (E : Ev G A X cc own Ts nL) (hinit : (xh X).name = "<init>") {ref C : String} {T : u_T} {N index : Nat} {a : Nat} (q0 ci k0 : Nat) {fs : List Value} {ws' : va_W} (hin : ∀ w ∈ u_ws C T N, w ∈ Ts) {ty0 : Nat → FieldType} (hty : ∀ k, k < N → parseFieldDescriptor (T k).2.2.1 = some (ty0 k)) (hnm : ∀ a, a < N → ∀ b, b < N → a ≠ b → (T a).2.1 ≠ (T b).2.1) (he : ws[q0]? = some (a, .inr (ci, fs))) (hc : vwCl[ci]? = some (C, T, N)) (hk : k0 < N) (hlink : Cond.fieldLink own index ref (T k0).2.1 (T k0).2.2.1 ∈ Ts) (href : (T k0).1 = ref) (hown : (T k0).1 = own) (hfin : (T k0).2.2.2 = true) {v : Value} (hn : narrow (ty0 k0) v = v) (hfit : fits (ty0 k0) v = true) (hl0 : k0 < fs.length) (hdg : decode cc pc = .ok (.putfield index, 3)) (hw : ws.set q0 (a, .inr (ci, fs.set k0 v)) = ws') (k : V G A X R ws' kc ks (pc + 3) lv st) : V G A X R ws kc ks pc lv (v :: .ref a :: st) :=
  fun H locs ls hP hD hS hl => va_putF E.1 E.2.1 E.2.2.2.2.1 hin ty0 hty hnm E.2.2.2.1 E.2.2.2.2.2.1 hP hD hS q0 he hc k0 hk (E.2.2.2.2.1 _ hlink) (fun x h => by rw [← href]; exact h) hfin hinit hown (hty k0 hk) hn hfit hl0 hdg (fun H1 locs1 hP1 hD1 hS1 => k H1 locs1 ls (hw ▸ hP1) (hw ▸ hD1) hS1 hl)
theorem V.iald (E : Ev G A X cc own Ts nL) (q0 : Nat) {a n : Nat} {f : Nat → Int32} (ha : ws[q0]? = some (a, kA (gI G) n f)) {i : Int32} (hin : vp_in i n) (hdg : decode cc pc = .ok (.iaload, 1)) (k : V G A X R ws kc ks (pc + 1) lv (.int (f i.toNatClampNeg) :: st)) : V G A X R ws kc ks pc lv (.int i :: .ref a :: st) :=
  fun H locs ls hP hD hS hl => va_iald E.1 E.2.1 E.2.2.2.2.2.1 hP q0 0 ha rfl hin hdg (k H locs ls hP hD hS hl)
theorem V.ialdN (E : Ev G A X cc own Ts nL) (q0 : Nat) {a n : Nat} {f : Nat → Int32} {i : Nat} (ha : ws[q0]? = some (a, kA (gI G) n f)) (hin : i < n) (hn : n < 2 ^ 31) {v : Int32} (hv : f i = v) (hdg : decode cc pc = .ok (.iaload, 1)) (k : V G A X R ws kc ks (pc + 1) lv (.int v :: st)) : V G A X R ws kc ks pc lv (.int (nI i) :: .ref a :: st) :=
  V.iald E q0 ha (vp_in_nI hin hn) hdg (by rw [nI_clamp (Nat.lt_trans hin hn), hv]; exact k)
theorem V.zaldN (E : Ev G A X cc own Ts nL) (q0 : Nat) {a n : Nat} {f : Nat → Int32} {i : Nat} (ha : ws[q0]? = some (a, kA (gZ G) n f)) (hin : i < n) (hn : n < 2 ^ 31) {v : Int32} (hv : f i = v) (hdg : decode cc pc = .ok (.baload, 1)) (k : V G A X R ws kc ks (pc + 1) lv (.int v :: st)) : V G A X R ws kc ks pc lv (.int (nI i) :: .ref a :: st) :=
  fun H locs ls hP hD hS hl => va_zald E.1 E.2.1 E.2.2.2.2.2.1 hP q0 1 ha rfl (vp_in_nI hin hn) hdg (by rw [nI_clamp (Nat.lt_trans hin hn), hv]; exact k H locs ls hP hD hS hl)
theorem kA_cong {D : va_G} {cl : List vw_C} {a : Nat} {c : ClassId} {n : Nat} {f f' : Nat → Int32} {H : Heap} (h : ∀ j, j < n → f j = f' j) (hx : va_at D cl (a, kA c n f) H) : va_at D cl (a, kA c n f') H := by
  have e : vp_cell c (n, .inl f) = vp_cell c (n, .inl f') := by
    rw [vp_cell_i, vp_cell_i]
    unfold arrV
    congr 1
    congr 1
    funext j
    show Value.int (f j.val) = Value.int (f' j.val)
    rw [h j.val j.isLt]
  show H[a]? = some (vp_cell c (n, .inl f'))
  rw [← e]
  exact hx
theorem V.arr (q0 : Nat) {a n : Nat} {c : ClassId} {f f' : Nat → Int32} {ws' : va_W} (ha : ws[q0]? = some (a, kA c n f)) (hf : ∀ j, j < n → f j = f' j) (hw : ws.set q0 (a, kA c n f') = ws') (k : V G A X R ws' kc ks pc lv st) : V G A X R ws kc ks pc lv st := by
  intro H locs ls hP hD hS hl
  exact k H locs ls (hw ▸ va_P.set hP hD ha (kA_cong hf (hP q0 _ ha)) (fun _ _ => rfl)) (hw ▸ va_D.set hD ha) hS hl
theorem V.iastN0 (E : Ev G A X cc own Ts nL) (q0 : Nat) {a n : Nat} {f : Nat → Int32} {i : Nat} {x : Int32} (ha : ws[q0]? = some (a, kA (gI G) n f)) (hin : i < n) (hn : n < 2 ^ 31) (hdg : decode cc pc = .ok (.iastore, 1)) (k : V G A X R (ws.set q0 (a, kA (gI G) n (upd f i x))) kc ks (pc + 1) lv st) : V G A X R ws kc ks pc lv (.int x :: .int (nI i) :: .ref a :: st) :=
  fun H locs ls hP hD hS hl => va_iast E.1 E.2.1 E.2.2.2.2.2.1 hP hD hS q0 0 ha rfl (vp_in_nI hin hn) hdg (fun H1 locs1 hP1 hD1 hS1 => by
    rw [nI_clamp (Nat.lt_trans hin hn)] at hP1 hD1
    exact k H1 locs1 ls hP1 hD1 hS1 hl)
theorem V.iastN (E : Ev G A X cc own Ts nL) (q0 : Nat) {a n : Nat} {f f' : Nat → Int32} {i : Nat} {x : Int32} {ws' : va_W} (ha : ws[q0]? = some (a, kA (gI G) n f)) (hin : i < n) (hn : n < 2 ^ 31) (hdg : decode cc pc = .ok (.iastore, 1)) (hf : ∀ j, j < n → upd f i x j = f' j) (hw : ws.set q0 (a, kA (gI G) n f') = ws') (k : V G A X R ws' kc ks (pc + 1) lv st) : V G A X R ws kc ks pc lv (.int x :: .int (nI i) :: .ref a :: st) :=
  V.iastN0 E q0 ha hin hn hdg (V.arr q0 (List.getElem?_set_self (List.getElem?_eq_some_iff.mp ha).1) hf (by rw [List.set_set]; exact hw) k)
theorem V.zastN0 (E : Ev G A X cc own Ts nL) (q0 : Nat) {a n : Nat} {f : Nat → Int32} {i : Nat} {x : Int32} (ha : ws[q0]? = some (a, kA (gZ G) n f)) (hin : i < n) (hn : n < 2 ^ 31) (hdg : decode cc pc = .ok (.bastore, 1)) (hx : vp_nar .boolean x = x) (k : V G A X R (ws.set q0 (a, kA (gZ G) n (upd f i x))) kc ks (pc + 1) lv st) : V G A X R ws kc ks pc lv (.int x :: .int (nI i) :: .ref a :: st) :=
  fun H locs ls hP hD hS hl => va_zast E.1 E.2.1 E.2.2.2.2.2.1 hP hD hS q0 1 ha rfl (vp_in_nI hin hn) hdg (fun H1 locs1 hP1 hD1 hS1 => by
    rw [nI_clamp (Nat.lt_trans hin hn), hx] at hP1 hD1
    exact k H1 locs1 ls hP1 hD1 hS1 hl)
theorem V.zastN (E : Ev G A X cc own Ts nL) (q0 : Nat) {a n : Nat} {f f' : Nat → Int32} {i : Nat} {x : Int32} {ws' : va_W} (ha : ws[q0]? = some (a, kA (gZ G) n f)) (hin : i < n) (hn : n < 2 ^ 31) (hdg : decode cc pc = .ok (.bastore, 1)) (hx : vp_nar .boolean x = x) (hf : ∀ j, j < n → upd f i x j = f' j) (hw : ws.set q0 (a, kA (gZ G) n f') = ws') (k : V G A X R ws' kc ks (pc + 1) lv st) : V G A X R ws kc ks pc lv (.int x :: .int (nI i) :: .ref a :: st) :=
  V.zastN0 E q0 ha hin hn hdg hx (V.arr q0 (List.getElem?_set_self (List.getElem?_eq_some_iff.mp ha).1) hf (by rw [List.set_set]; exact hw) k)
theorem V.alen (E : Ev G A X cc own Ts nL) (q0 : Nat) {a n : Nat} {f : Nat → Int32} (ha : ws[q0]? = some (a, kA (gI G) n f)) (hdg : decode cc pc = .ok (.arraylength, 1)) (k : V G A X R ws kc ks (pc + 1) lv (.int (nI n) :: st)) : V G A X R ws kc ks pc lv (.ref a :: st) :=
  fun H locs ls hP hD hS hl => va_alen E.1 E.2.1 E.2.2.2.2.2.1 hP q0 0 ha rfl rfl hdg (k H locs ls hP hD hS hl)
theorem V.aaldN (E : Ev G A X cc own Ts nL) (q0 : Nat) {a n : Nat} {f : Nat → Option Nat} {i : Nat} (ha : ws[q0]? = some (a, kQ (gS G) n f)) (hin : i < n) (hn : n < 2 ^ 31) {v : Value} (hv : va_rf (f i) = v) (hdg : decode cc pc = .ok (.aaload, 1)) (k : V G A X R ws kc ks (pc + 1) lv (v :: st)) : V G A X R ws kc ks pc lv (.int (nI i) :: .ref a :: st) :=
  fun H locs ls hP hD hS hl => va_aldq E.1 E.2.1 E.2.2.2.2.2.1 hP q0 2 ha rfl (vp_in_nI hin hn) hdg (by rw [nI_clamp (Nat.lt_trans hin hn), hv]; exact k H locs ls hP hD hS hl)
theorem V.aastN (E : Ev G A X cc own Ts nL) (q0 qk : Nat) {a n v : Nat} {vs : List Value} {f f' : Nat → Option Nat} {i : Nat} {ws' : va_W} (ha : ws[q0]? = some (a, kQ (gS G) n f)) (hv : ws[qk]? = some (v, .inr (2, vs))) (hin : i < n) (hn : n < 2 ^ 31) (hdg : decode cc pc = .ok (.aastore, 1)) (hf : va_up f i (some v) = f') (hw : ws.set q0 (a, kQ (gS G) n f') = ws') (k : V G A X R ws' kc ks (pc + 1) lv st) : V G A X R ws kc ks pc lv (.ref v :: .int (nI i) :: .ref a :: st) :=
  fun H locs ls hP hD hS hl => va_astq (r := (RX2, TX2, 5)) E.1 E.2.1 E.2.2.2.2.2.1 hP hD hS q0 2 qk 2 ha rfl hv rfl (vp_in_nI hin hn) hdg (fun H1 locs1 hP1 hD1 hS1 => by
    rw [nI_clamp (Nat.lt_trans hin hn), hf] at hP1 hD1
    exact k H1 locs1 ls (hw ▸ hP1) (hw ▸ hD1) hS1 hl)

theorem V.gets (E : Ev G A X cc own Ts nL) {index : Nat} (hlink : Cond.fieldLink own index RX4 "HIGHEST_VALUES" "[I" ∈ Ts) (hdg : decode cc pc = .ok (.getstatic index, 3)) (k : V G A X R ws kc ks (pc + 3) lv (.ref G.2.2.2 :: st)) : V G A X R ws kc ks pc lv st :=
  fun H locs ls hP hD hS hl => va_gets E.1 E.2.1 E.2.2.2.2.2.2.2.2.2.2.2.1 hS E.2.2.2.1 (E.2.2.2.2.1 _ hlink) (fun x h => h) hdg (k H locs ls hP hD hS hl)
theorem V.getsN (E : Ev G A X cc own Ts nL) {index : Nat} {host : String} (hlink : Cond.fieldLinkNest own index RX4 "FIRST_VALUES" "[I" host ∈ nWords) (hdg : decode cc pc = .ok (.getstatic index, 3)) (k : V G A X R ws kc ks (pc + 3) lv (.ref G.2.2.1 :: st)) : V G A X R ws kc ks pc lv st :=
  fun H locs ls hP hD hS hl => va_getsN E.1 E.2.1 E.2.2.2.2.2.2.2.2.2.1 hS E.2.2.2.1 (va_Nw.use rfl (E.2.2.2.2.2.2.2.1 _ hlink)) (fun x h => h) hdg (k H locs ls hP hD hS hl)
theorem V.thi (E : Ev G A X cc own Ts nL) {i : Nat} (hi : i < 6) (hdg : decode cc pc = .ok (.iaload, 1)) (k : V G A X R ws kc ks (pc + 1) lv (.int (nI (hv i)) :: st)) : V G A X R ws kc ks pc lv (.int (nI i) :: .ref G.2.2.2 :: st) :=
  fun H locs ls hP hD hS hl => va_ti E.1 E.2.1 E.2.2.2.2.2.2.2.2.2.2.2.2 hS (vp_in_nI hi (by decide)) (by rw [nI_clamp (by omega)]) hdg (k H locs ls hP hD hS hl)
end VR
