/-! the law: its script, its loop -/
def SX (A : Nat → Prop) (X : VX) (b L : Nat) (sc : Nat → Int32) : Prop := va_X b L sc (xs X) (xs X).heap ∧ b < (xs X).heap.size ∧ ¬ A b ∧ L ≤ 260
section
variable {G : VC} {A : Nat → Prop} {X : VX} {R : Room} {cc : ByteArray} {own : String} {Ts : List Cond} {nL : Nat} {ws : va_W} {kc ks pc : Nat} {lv : List (Option Value)} {st : List Value}
theorem V.sld (E : Ev G A X cc own Ts nL) {b L : Nat} {sc : Nat → Int32} (S : SX A X b L sc) {i : Nat} (hi : i < L) {v : Int32} (hv : sc i = v) (hdg : decode cc pc = .ok (.iaload, 1)) (k : V G A X R ws kc ks (pc + 1) lv (.int v :: st)) : V G A X R ws kc ks pc lv (.int (nI i) :: .ref b :: st) :=
  fun H locs ls hP hD hS hl => va_sld E.1 E.2.1 S.1 S.2.1 S.2.2.1 hS (vp_in_nI hi (Nat.lt_of_le_of_lt S.2.2.2 (by decide))) hdg (by rw [nI_clamp (Nat.lt_trans hi (Nat.lt_of_le_of_lt S.2.2.2 (by decide))), hv]; exact k H locs ls hP hD hS hl)
theorem V.slen (E : Ev G A X cc own Ts nL) {b L : Nat} {sc : Nat → Int32} (S : SX A X b L sc) (hdg : decode cc pc = .ok (.arraylength, 1)) (k : V G A X R ws kc ks (pc + 1) lv (.int (nI L) :: st)) : V G A X R ws kc ks pc lv (.ref b :: st) :=
  fun H locs ls hP hD hS hl => va_slen E.1 E.2.1 S.1 S.2.1 S.2.2.1 hS hdg (k H locs ls hP hD hS hl)
end
/-- the start of a method that reads the script -/
def xPc (G : VC) (b L : Nat) (sc : Nat → Int32) (av : List Value) (sz : Nat) : Array Value → State → Prop := va_Pc av (fun U => (U.heap.size = sz ∧ va_P G.1 vwCl [] U.heap ∧ va_K G.1 vwCl (TY G) U ∧ va_D (fun _ => True) [] ∧ Gl G (va_A [] sz) U U.heap) ∧ va_X b L sc U U.heap ∧ b < U.heap.size)
theorem xBlind {G : VC} {b L : Nat} {sc : Nat → Int32} {av : List Value} {sz : Nat} : FrameBlind (xPc G b L sc av sz) := fun a U g mk q => by
  obtain ⟨e, ⟨q0, q1, q2, q3, q4⟩, q5, q6⟩ := q
  exact ⟨e, ⟨q0, q1, va_K.moved (u := U) (U := U.calling g mk a) (Vm.Alike.refl U.vm) q2, q3, q4.call g mk a⟩, va_X.moved (u := U) (U := U.calling g mk a) (Vm.Alike.refl U.vm) q5, q6⟩
abbrev rm_cell : Room := { frames := 1, cells := 0, slots := 0, locals := 20 }
theorem c_cell (G : VC) (b L : Nat) (sc : Nat → Int32) (hL : L ≤ 260) (k : Nat) (hk : k < 64) : ∀ (l : Launch) (sz : Nat), Met l yL_cell wsL_cell rm_cell (xPc G b L sc [.ref b, .int (nI k)] sz) (nQc G [] sz (fun v u => ∃ z : Int32, u = [] ∧ v = some (.int z))) 0 0 (va_A [] sz) := by
  intro l sz
  refine Met.ofW (cc := cL_cell) (maxL := 2) (ret := some .int) (by decide) rfl ?_
  intro p e s m args below meth c s₁ B hml hv
  obtain ⟨rfl, ⟨hsz, hP, hK, hD0, hGl⟩, hX, hb⟩ := hv
  subst hsz
  have hD := hD0.self (sz := s.heap.size)
  have hl := lv_entry [.ref b, .int (nI k)] (n := 2) (Nat.le_of_ble_eq_true rfl)
  rw [lg_entry_eq]
  generalize (lg_sl [.ref b, .int (nI k)] ++ List.replicate (2 - (lg_sl [.ref b, .int (nI k)]).length) Slot.unset).toArray = ls at hl ⊢
  let X : VX := (p, l, e, s, m, #[.ref b, .int (nI k)], below, meth, c, MQ below (nQc G [] s.heap.size (fun v u => ∃ z : Int32, u = [] ∧ v = some (.int z))) #[.ref b, .int (nI k)] s 0 0 (va_A [] s.heap.size))
  have E : Ev G (va_A [] s.heap.size) X cL_cell yL_cell.cls wsL_cell 2 := ⟨B.exec, B.bytes, hml, findClass_of_methodNamed B.named, atoms_spec (ws := wsL_cell) B.pre, hK, fun q h => Or.inr h, hGl⟩
  have S : SX (va_A [] s.heap.size) X b L sc := ⟨hX, hb, fun h => by
    rcases h with ⟨i, e, h⟩ | h
    · simp at h
    · exact absurd hb (Nat.not_lt.mpr h), hL⟩
  have hend : ∀ (lv : List (Option Value)) (v : Int32), V G (va_A [] s.heap.size) X rm_cell [] 0 0 20 lv [.int v] := fun lv v H locs ls hPu hDu hS hls => W.zret E.1 E.2.1 B.returns rfl
    (fun t ht hW2 => ⟨⟨some (.int v), [], rfl, ⟨v, rfl, rfl⟩, by rw [ht]; exact hPu, hDu⟩, hS.F ht⟩) hS.2.2 dL_cell_20 B.notSynchronized
  have hb2 : V G (va_A [] s.heap.size) X rm_cell [] 0 0 0 [some (.ref b), some (.int (nI k))] [] := by
    refine V.iload_n E dL_cell_0 rfl rfl ?_
    refine V.aload_n E dL_cell_1 rfl rfl ?_
    refine V.slen E S dL_cell_2 ?_
    refine V.icmp_geN (tgt := 12) E (by omega) (by omega) dL_cell_3 (by decide) (fun q_3 => ?_) (fun q_3 => ?_)
    · refine V.ldc (v := nI 2144593335) E (by decide +kernel) dL_cell_12 ?_
      refine V.iload_n E dL_cell_14 rfl rfl ?_
      refine V.sipush (v := nI 1321) E dL_cell_15 (by decide) ?_
      refine V.iadd E dL_cell_18 ?_
      refine V.imul E dL_cell_19 ?_
      exact hend _ _
    · refine V.aload_n E dL_cell_6 rfl rfl ?_
      refine V.iload_n E dL_cell_7 rfl rfl ?_
      refine V.sld (v := sc k) E S (by omega) rfl dL_cell_8 ?_
      refine V.goto (tgt := 20) E dL_cell_9 (by decide) ?_
      exact hend _ _
  exact hb2 s.heap [] ls hP hD va_S.rf ⟨hl.1, hl.2.1, hl.2.2⟩
section
variable {G : VC} {A : Nat → Prop} {X : VX} {R : Room} {cc : ByteArray} {own : String} {Ts : List Cond} {nL : Nat} {ws : va_W} {kc ks pc : Nat} {lv : List (Option Value)} {st : List Value}
theorem hd_L_cell : yL_cell.cls ≠ "java/lang/invoke/MethodHandle" ∧ yL_cell.cls ≠ "java/lang/invoke/VarHandle" ∧ (parseMethodDescriptor yL_cell.desc).map (fun d => d.parameters.length) = some 2 := by decide +kernel
theorem V.cell (E : Ev G A X cc own Ts nL) {b L : Nat} {sc : Nat → Int32} (S : SX A X b L sc) {k : Nat} (hk : k < 64) (rest : List Value) {index : Nat} (hG : GoodIn Ts (va_wsS own index yL_cell wsL_cell)) (hR : (rm_cell.frames + 1 ≤ R.frames ∧ 8 + (2 + 11) + rm_cell.locals ≤ R.locals) ∧ kc + rm_cell.cells ≤ R.cells ∧ ks + rm_cell.slots ≤ R.slots) (hnl : lv.length = nL) (hcat : (rest.map fun v => v.category).sum ≤ 8) (hdg : decode cc pc = .ok (.invokestatic index, 3))
    (k1 : ∀ v : Int32, V G A X R ws kc ks (pc + 3) lv (.int v :: rest)) : V G A X R ws kc ks pc lv (.int (nI k) :: .ref b :: rest) :=
  V.ofRun (wc := []) (wr := ws) (Post := fun v u => ∃ z : Int32, u = [] ∧ v = some (.int z)) (av := [.ref b, .int (nI k)]) (rest := rest) (mc := 0) (ms := 0) (a := #[.ref b, .int (nI k)]) E (List.Perm.refl _)
    (fun H locs ls hsz hS hP hpre => va_runS (As := [.ref b, .int (nI k)]) (rest := rest) ⟨E.1, E.2.1, E.2.2.1, E.2.2.2.1, E.2.2.2.2.1⟩ (c_cell G b L sc S.2.2.2 k hk X.2.1 H.size) (va_cwS 2 E.2.2.2.2.1 hG rfl rfl rfl hd_L_cell hR.1)
      ⟨xBlind, fun U hU hW => ⟨rfl, (hpre U hU hW).2, va_X.moved hW.alike (by rw [hU]; exact va_X.kept S.1 (hS.2.1 b S.2.1 S.2.2.1)), by rw [hU]; exact Nat.lt_of_lt_of_le S.2.1 hS.1⟩⟩ rfl rfl (hsz.trans hnl) rfl (lv_room hcat) hdg hR.2)
    (fun v u h => by obtain ⟨z, rfl, rfl⟩ := h; exact k1 z)
end
theorem rmL {kc c R : Nat} (h : kc + 10 ≤ R) (hc : Nat.ble c 10 = true) : kc + c ≤ R := Nat.le_trans (Nat.add_le_add_left (Nat.le_of_ble_eq_true hc) _) h
theorem rmS {ks c R : Nat} (h : ks + 310 ≤ R) (hc : Nat.ble c 310 = true) : ks + c ≤ R := Nat.le_trans (Nat.add_le_add_left (Nat.le_of_ble_eq_true hc) _) h
abbrev q00 : OQ := (sc00, (fun _ => sc00), (0, 0), (none, none), z0, 0)
abbrev j00 : OJ := (sc00, ((fun _ => z0), 0), (fun _ => z0), 0)
theorem lw_eq (a b : List va_W) : bl (a ++ b) = bl [bl a, bl b, bl [[], []], bl [[], []]] := by simp
theorem mF_z0 : mF z0 = z0 := rfl
theorem slI_n : slI none := fun p h => by cases h
theorem oi00 : OBI q00 := ⟨SInv.s00, fun _ _ => SInv.s00, by decide, by decide, slI_n, slI_n, by decide, fun _ _ => (by decide : 0 < 256)⟩
theorem rel00 : Rel q00 q00 := ⟨oi00, oi00, rfl, fun _ => rfl, rfl, rfl, trivial, trivial⟩
set_option maxRecDepth 100000 in
set_option maxHeartbeats 8000000 in
theorem lw_turn {G : VC} {A : Nat → Prop} {X : VX} (E : Ev G A X cL_law RL wsL_law 5) {b L : Nat} {sc : Nat → Int32} (S : SX A X b L sc) {i : Nat} (hi : i < 40) {kc ks : Nat} (hkc : kc + 10 ≤ 600000) (hks : ks + 310 ≤ 7302249) {a1 h1 a2 h2 : AD} {q1 q2 : OQ} (j1 j2 : OJ) (h : Rel q1 q2) (K : ∀ (q1 : OQ) (j1 : OJ) (q2 : OQ) (j2 : OJ), Rel q1 q2 → V G A X room_1 (bl [obW G a1 h1 q1 j1, obW G a2 h2 q2 j2, slB G q1, slB G q2]) (kc + 10) (ks + 310) 21 [some (.ref (b)), some (.ref (a1 0 0)), some (.ref (a2 0 0)), some (.int (nI (1))), some (.int (nI (i + 1)))] []) : V G A X room_1 (bl [obW G a1 h1 q1 j1, obW G a2 h2 q2 j2, slB G q1, slB G q2]) kc ks 21 [some (.ref (b)), some (.ref (a1 0 0)), some (.ref (a2 0 0)), some (.int (nI (1))), some (.int (nI (i)))] [] := by
  refine V.iload E dL_law_21 rfl ?_
  refine V.bipush (v := nI (40)) E dL_law_23 (by decide) ?_
  refine V.icmp_geN (tgt := 82) E (by omega) (by omega) dL_law_25 (by decide) (fun q_25 => ?_) (fun q_25 => ?_)
  · exact absurd hi (by omega)
  · refine V.iload_n E dL_law_28 rfl rfl ?_
    refine V.if_eqN (tgt := 82) E (by omega) dL_law_29 (by decide) (fun q_29 => absurd q_29 (by decide)) (fun q_29 => ?_)
    refine V.aload_n E dL_law_32 rfl rfl ?_
    refine V.aload_n E dL_law_33 rfl rfl ?_
    refine V.aload_n E dL_law_34 rfl rfl ?_
    refine V.iload E dL_law_35 rfl ?_
    refine V.cell E S (k := i) (by omega) [.ref (a2 0 0), .ref (a1 0 0)] gL_law_L_cell ⟨⟨Nat.le_of_ble_eq_true rfl, Nat.le_of_ble_eq_true rfl⟩, rmL hkc rfl, rmS hks rfl⟩ rfl (Nat.le_of_ble_eq_true rfl) dL_law_37 (fun v1 => ?_)
    refine V.aload_n E dL_law_40 rfl rfl ?_
    refine V.iload E dL_law_41 rfl ?_
    refine V.iconst (v := nI (1)) E dL_law_43 (by decide) ?_
    refine V.iaddN E  dL_law_44 ?_
    refine V.cell E S (k := i + 1) (by omega) [.int (v1), .ref (a2 0 0), .ref (a1 0 0)] gL_law_L_cell ⟨⟨Nat.le_of_ble_eq_true rfl, Nat.le_of_ble_eq_true rfl⟩, rmL hkc rfl, rmS hks rfl⟩ rfl (Nat.le_of_ble_eq_true rfl) dL_law_45 (fun v2 => ?_)
    refine V.iconst (v := nI (2)) E dL_law_48 (by decide) ?_
    refine V.ishr E dL_law_49 ?_
    refine V.callS E (o_isStep G a1 h1 a2 h2 q1 j1 q2 j2 v1 ((v2) >>> ((nI (2)) &&& 31)) (h)) (bl []) [] gL_law_L_isStep rfl hd_L_isStep ⟨⟨Nat.le_of_ble_eq_true rfl, Nat.le_of_ble_eq_true rfl⟩, rmL hkc rfl, rmS hks rfl⟩ rfl (Nat.le_of_ble_eq_true rfl) rfl dL_law_50 (pBs (n := 4) [obW G a1 h1 q1 j1, obW G a2 h2 q2 j2, slB G q1, slB G q2] [0, 1, 2, 3] [] rfl (by decide)) (kc' := kc + 10) (ks' := ks + 310) rfl rfl (rxI (ws' := fun (g_50 : OQ × OJ × OQ × OJ) => (bl [obW G a1 h1 g_50.1 g_50.2.1, obW G a2 h2 g_50.2.2.1 g_50.2.2.2, slB G g_50.1, slB G g_50.2.2.1])) (fun g_50 => (pBs (n := 4) [obW G a1 h1 g_50.1 g_50.2.1, obW G a2 h2 g_50.2.2.1 g_50.2.2.2, slB G g_50.1, slB G g_50.2.2.1] [0, 1, 2, 3] [] rfl (by decide)).symm) (fun g_50 hf_50 => ?_))
    refine V.if_eqN (tgt := 74) E (by omega) dL_law_53 (by decide) (fun q_53 => absurd q_53 (by decide)) (fun q_53 => ?_)
    refine V.iload E dL_law_56 rfl ?_
    refine V.iconst (v := nI (5)) E dL_law_58 (by decide) ?_
    refine V.iremN E (by omega) (by decide) (by decide) dL_law_59 ?_
    refine V.if_gtN (tgt := 70) E (by omega) dL_law_60 (by decide) (fun q_60 => ?_) (fun q_60 => ?_)
    · refine V.iconst (v := nI (1)) E dL_law_70 (by decide) ?_
      refine V.goto (tgt := 75) E dL_law_71 (by decide) ?_
      refine V.istore_n (lv' := [some (.ref (b)), some (.ref (a1 0 0)), some (.ref (a2 0 0)), some (.int (nI (1))), some (.int (nI (i)))]) E dL_law_75 rfl (Nat.le_of_ble_eq_true rfl) rfl rfl ?_
      refine V.iincN (lv' := [some (.ref (b)), some (.ref (a1 0 0)), some (.ref (a2 0 0)), some (.int (nI (1))), some (.int (nI (i + 1)))]) E dL_law_76 rfl (Nat.le_of_ble_eq_true rfl) rfl rfl ?_
      refine V.goto (tgt := 21) E dL_law_79 (by decide) ?_
      exact K _ _ _ _ hf_50
    · refine V.aload_n E dL_law_63 rfl rfl ?_
      refine V.callS E (o_isWell G a1 h1 g_50.1 g_50.2.1 (hf_50.q)) (bl [obW G a2 h2 g_50.2.2.1 g_50.2.2.2, slB G g_50.2.2.1]) [] gL_law_L_isWell rfl hd_L_isWell ⟨⟨Nat.le_of_ble_eq_true rfl, Nat.le_of_ble_eq_true rfl⟩, hkc, hks⟩ rfl (Nat.le_of_ble_eq_true rfl) rfl dL_law_64 (pBs (n := 4) [obW G a1 h1 g_50.1 g_50.2.1, obW G a2 h2 g_50.2.2.1 g_50.2.2.2, slB G g_50.1, slB G g_50.2.2.1] [0, 2] [1, 3] rfl (by decide)) (kc' := kc + 10) (ks' := ks + 310) rfl rfl (rxI (ws' := fun (g_64 : OJ) => (bl [obW G a1 h1 g_50.1 g_64, obW G a2 h2 g_50.2.2.1 g_50.2.2.2, slB G g_50.1, slB G g_50.2.2.1])) (fun g_64 => (pBs (n := 4) [obW G a1 h1 g_50.1 g_64, obW G a2 h2 g_50.2.2.1 g_50.2.2.2, slB G g_50.1, slB G g_50.2.2.1] [0, 2] [1, 3] rfl (by decide)).symm) (fun g_64 hf_64 => ?_))
      refine V.if_eqN (tgt := 74) E (by omega) dL_law_67 (by decide) (fun q_67 => absurd q_67 (by decide)) (fun q_67 => ?_)
      refine V.iconst (v := nI (1)) E dL_law_70 (by decide) ?_
      refine V.goto (tgt := 75) E dL_law_71 (by decide) ?_
      refine V.istore_n (lv' := [some (.ref (b)), some (.ref (a1 0 0)), some (.ref (a2 0 0)), some (.int (nI (1))), some (.int (nI (i)))]) E dL_law_75 rfl (Nat.le_of_ble_eq_true rfl) rfl rfl ?_
      refine V.iincN (lv' := [some (.ref (b)), some (.ref (a1 0 0)), some (.ref (a2 0 0)), some (.int (nI (1))), some (.int (nI (i + 1)))]) E dL_law_76 rfl (Nat.le_of_ble_eq_true rfl) rfl rfl ?_
      refine V.goto (tgt := 21) E dL_law_79 (by decide) ?_
      exact K _ _ _ _ hf_50
set_option maxRecDepth 100000 in
set_option maxHeartbeats 8000000 in
theorem lw_last {G : VC} {A : Nat → Prop} {X : VX} (E : Ev G A X cL_law RL wsL_law 5) {b L : Nat} {sc : Nat → Int32} (S : SX A X b L sc) (KE : ∀ (ws : va_W) (kc ks : Nat) (lv : List (Option Value)), kc ≤ 600000 → ks ≤ 7302249 → V G A X room_1 ws kc ks 107 lv []) {kc ks : Nat} (hkc : kc + 10 ≤ 600000) (hks : ks + 310 ≤ 7302249) {a1 h1 a2 h2 : AD} {q1 q2 : OQ} (j1 j2 : OJ) (h : Rel q1 q2) : V G A X room_1 (bl [obW G a1 h1 q1 j1, obW G a2 h2 q2 j2, slB G q1, slB G q2]) kc ks 21 [some (.ref (b)), some (.ref (a1 0 0)), some (.ref (a2 0 0)), some (.int (nI (1))), some (.int (nI (40)))] [] := by
  refine V.iload E dL_law_21 rfl ?_
  refine V.bipush (v := nI (40)) E dL_law_23 (by decide) ?_
  refine V.icmp_geN (tgt := 82) E (by omega) (by omega) dL_law_25 (by decide) (fun q_25 => ?_) (fun q_25 => absurd q_25 (by decide))
  refine V.iload_n E dL_law_82 rfl rfl ?_
  refine V.if_eqN (tgt := 111) E (by omega) dL_law_83 (by decide) (fun q_83 => absurd q_83 (by decide)) (fun q_83 => ?_)
  refine V.aload_n E dL_law_86 rfl rfl ?_
  refine V.callS E (o_isWell G a1 h1 q1 j1 (h.q)) (bl [obW G a2 h2 q2 j2, slB G q2]) [] gL_law_L_isWell rfl hd_L_isWell ⟨⟨Nat.le_of_ble_eq_true rfl, Nat.le_of_ble_eq_true rfl⟩, rmL hkc rfl, rmS hks rfl⟩ rfl (Nat.le_of_ble_eq_true rfl) rfl dL_law_87 (pBs (n := 4) [obW G a1 h1 q1 j1, obW G a2 h2 q2 j2, slB G q1, slB G q2] [0, 2] [1, 3] rfl (by decide)) (kc' := kc) (ks' := ks) rfl rfl (rxI (ws' := fun (g_87 : OJ) => (bl [obW G a1 h1 q1 g_87, obW G a2 h2 q2 j2, slB G q1, slB G q2])) (fun g_87 => (pBs (n := 4) [obW G a1 h1 q1 g_87, obW G a2 h2 q2 j2, slB G q1, slB G q2] [0, 2] [1, 3] rfl (by decide)).symm) (fun g_87 hf_87 => ?_))
  refine V.if_eqN (tgt := 111) E (by omega) dL_law_90 (by decide) (fun q_90 => absurd q_90 (by decide)) (fun q_90 => ?_)
  refine V.aload_n E dL_law_93 rfl rfl ?_
  refine V.aload_n E dL_law_94 rfl rfl ?_
  refine V.aload_n E dL_law_95 rfl rfl ?_
  refine V.bipush (v := nI (40)) E dL_law_96 (by decide) ?_
  refine V.cell E S (k := 40) (by decide) [.ref (a2 0 0), .ref (a1 0 0)] gL_law_L_cell ⟨⟨Nat.le_of_ble_eq_true rfl, Nat.le_of_ble_eq_true rfl⟩, rmL hkc rfl, rmS hks rfl⟩ rfl (Nat.le_of_ble_eq_true rfl) dL_law_98 (fun v1 => ?_)
  refine V.callS E (o_areAlike G a1 h1 a2 h2 q1 g_87 q2 j2 v1 (h)) (bl []) [] gL_law_L_areAlike rfl hd_L_areAlike ⟨⟨Nat.le_of_ble_eq_true rfl, Nat.le_of_ble_eq_true rfl⟩, rmL hkc rfl, rmS hks rfl⟩ rfl (Nat.le_of_ble_eq_true rfl) rfl dL_law_101 (pBs (n := 4) [obW G a1 h1 q1 g_87, obW G a2 h2 q2 j2, slB G q1, slB G q2] [0, 1, 2, 3] [] rfl (by decide)) (kc' := kc) (ks' := ks) rfl rfl (rxI (ws' := fun (g_101 : OJ × OJ) => (bl [obW G a1 h1 q1 g_101.1, obW G a2 h2 q2 g_101.2, slB G q1, slB G q2])) (fun g_101 => (pBs (n := 4) [obW G a1 h1 q1 g_101.1, obW G a2 h2 q2 g_101.2, slB G q1, slB G q2] [0, 1, 2, 3] [] rfl (by decide)).symm) (fun g_101 hf_101 => ?_))
  refine V.if_eqN (tgt := 111) E (by omega) dL_law_104 (by decide) (fun q_104 => absurd q_104 (by decide)) (fun q_104 => ?_)
  exact KE _ _ _ _ (by omega) (by omega)
theorem lw_loop {G : VC} {A : Nat → Prop} {X : VX} (E : Ev G A X cL_law RL wsL_law 5) {b L : Nat} {sc : Nat → Int32} (S : SX A X b L sc) (KE : ∀ (ws : va_W) (kc ks : Nat) (lv : List (Option Value)), kc ≤ 600000 → ks ≤ 7302249 → V G A X room_1 ws kc ks 107 lv []) {a1 h1 a2 h2 : AD} : ∀ (f i kc ks : Nat), i + f = 40 → kc + 10 * f + 10 ≤ 600000 → ks + 310 * f + 310 ≤ 7302249 → ∀ (q1 : OQ) (j1 : OJ) (q2 : OQ) (j2 : OJ), Rel q1 q2 → V G A X room_1 (bl [obW G a1 h1 q1 j1, obW G a2 h2 q2 j2, slB G q1, slB G q2]) kc ks 21 [some (.ref (b)), some (.ref (a1 0 0)), some (.ref (a2 0 0)), some (.int (nI (1))), some (.int (nI (i)))] [] := by
  intro f
  induction f with
  | zero =>
    intro i kc ks hi hkc hks q1 j1 q2 j2 h
    obtain rfl : i = 40 := hi
    exact lw_last E S KE (by omega) (by omega) j1 j2 h
  | succ f ih =>
    intro i kc ks hi hkc hks q1 j1 q2 j2 h
    exact lw_turn E S (by omega) (by omega) (by omega) j1 j2 h (fun q1 j1 q2 j2 h => ih (i + 1) (kc + 10) (ks + 310) (by omega) (by omega) (by omega) q1 j1 q2 j2 h)
set_option maxRecDepth 100000 in
set_option maxHeartbeats 16000000 in
theorem lw_all {G : VC} {A : Nat → Prop} {X : VX} (E : Ev G A X cL_law RL wsL_law 5) {b L : Nat} {sc : Nat → Int32} (S : SX A X b L sc) (KE : ∀ (ws : va_W) (kc ks : Nat) (lv : List (Option Value)), kc ≤ 600000 → ks ≤ 7302249 → V G A X room_1 ws kc ks 107 lv []) : V G A X room_1 (bl []) 0 0 0 [some (.ref b), none, none, none, none] [] := by
  refine V.newB (bs := []) (fs := [.null, .null, .null, .null, .null, .null, .null]) E 4 (by decide +kernel) tyX4_ok rfl (by decide +kernel) (by decide +kernel) (by decide +kernel) (by decide) ⟨Nat.le_of_ble_eq_true rfl, Nat.le_of_ble_eq_true rfl⟩ dL_law_0 (fun n_0 => ?_)
  show V G A X room_1 (bl [[(n_0, kO 4 [.null, .null, .null, .null, .null, .null, .null])]]) 1 7 3 [some (.ref (b)), none, none, none, none] [.ref (n_0)]
  refine V.dup E dL_law_3 rfl ?_
  refine V.callI E (c_X4_init G n_0 ) (bl []) [.ref (n_0)] gL_law_X4_init rfl (by decide +kernel) (by decide +kernel) (by decide +kernel) rfl hd_X4_init ⟨⟨Nat.le_of_ble_eq_true rfl, Nat.le_of_ble_eq_true rfl⟩, Nat.le_of_ble_eq_true rfl, Nat.le_of_ble_eq_true rfl⟩ rfl (Nat.le_of_ble_eq_true rfl) rfl dL_law_4 (pBs (n := 1) [[(n_0, kO 4 [.null, .null, .null, .null, .null, .null, .null])]] [0] [] rfl (by decide)) (kc' := 66) (ks' := 2192) rfl rfl (rxV (ws' := fun (g_4 : AD × AD) => (bl [gsW G g_4.1 none none, scW G (g_4.1 1) sc00, scW G (g_4.1 2) sc00, vwW G (g_4.1 3) z0 z0 z0 z0 z0 z0 z0 z0 z0 0, vwW G (g_4.1 4) z0 z0 z0 z0 z0 z0 z0 z0 z0 0, pdW G (g_4.1 5) z0 0, hiW G (g_4.1 6) g_4.2 0 0, scW G (g_4.2 0) sc00, scW G (g_4.2 1) sc00, scW G (g_4.2 2) sc00, scW G (g_4.2 3) sc00, scW G (g_4.2 4) sc00, scW G (g_4.2 5) sc00])) (fun g_4 => (pBs (n := 13) [gsW G g_4.1 none none, scW G (g_4.1 1) sc00, scW G (g_4.1 2) sc00, vwW G (g_4.1 3) z0 z0 z0 z0 z0 z0 z0 z0 z0 0, vwW G (g_4.1 4) z0 z0 z0 z0 z0 z0 z0 z0 z0 0, pdW G (g_4.1 5) z0 0, hiW G (g_4.1 6) g_4.2 0 0, scW G (g_4.2 0) sc00, scW G (g_4.2 1) sc00, scW G (g_4.2 2) sc00, scW G (g_4.2 3) sc00, scW G (g_4.2 4) sc00, scW G (g_4.2 5) sc00] [0, 1, 2, 3, 4, 5, 6, 7, 8, 9, 10, 11, 12] [] rfl (by decide)).symm) (fun g_4 hf_4 => ?_))
  obtain rfl := hf_4
  refine V.astore_n (lv' := [some (.ref (b)), some (.ref (g_4.1 0 0)), none, none, none]) E dL_law_7 rfl (Nat.le_of_ble_eq_true rfl) rfl rfl ?_
  refine V.newB (bs := [gsW G g_4.1 none none, scW G (g_4.1 1) sc00, scW G (g_4.1 2) sc00, vwW G (g_4.1 3) z0 z0 z0 z0 z0 z0 z0 z0 z0 0, vwW G (g_4.1 4) z0 z0 z0 z0 z0 z0 z0 z0 z0 0, pdW G (g_4.1 5) z0 0, hiW G (g_4.1 6) g_4.2 0 0, scW G (g_4.2 0) sc00, scW G (g_4.2 1) sc00, scW G (g_4.2 2) sc00, scW G (g_4.2 3) sc00, scW G (g_4.2 4) sc00, scW G (g_4.2 5) sc00]) (fs := [.null, .null, .null, .null, .null, .null, .null]) E 4 (by decide +kernel) tyX4_ok rfl (by decide +kernel) (by decide +kernel) (by decide +kernel) (by decide) ⟨Nat.le_of_ble_eq_true rfl, Nat.le_of_ble_eq_true rfl⟩ dL_law_8 (fun n_8 => ?_)
  show V G A X room_1 (bl [gsW G g_4.1 none none, scW G (g_4.1 1) sc00, scW G (g_4.1 2) sc00, vwW G (g_4.1 3) z0 z0 z0 z0 z0 z0 z0 z0 z0 0, vwW G (g_4.1 4) z0 z0 z0 z0 z0 z0 z0 z0 z0 0, pdW G (g_4.1 5) z0 0, hiW G (g_4.1 6) g_4.2 0 0, scW G (g_4.2 0) sc00, scW G (g_4.2 1) sc00, scW G (g_4.2 2) sc00, scW G (g_4.2 3) sc00, scW G (g_4.2 4) sc00, scW G (g_4.2 5) sc00, [(n_8, kO 4 [.null, .null, .null, .null, .null, .null, .null])]]) 67 2199 11 [some (.ref (b)), some (.ref (g_4.1 0 0)), none, none, none] [.ref (n_8)]
  refine V.dup E dL_law_11 rfl ?_
  refine V.callI E (c_X4_init G n_8 ) (bl [gsW G g_4.1 none none, scW G (g_4.1 1) sc00, scW G (g_4.1 2) sc00, vwW G (g_4.1 3) z0 z0 z0 z0 z0 z0 z0 z0 z0 0, vwW G (g_4.1 4) z0 z0 z0 z0 z0 z0 z0 z0 z0 0, pdW G (g_4.1 5) z0 0, hiW G (g_4.1 6) g_4.2 0 0, scW G (g_4.2 0) sc00, scW G (g_4.2 1) sc00, scW G (g_4.2 2) sc00, scW G (g_4.2 3) sc00, scW G (g_4.2 4) sc00, scW G (g_4.2 5) sc00]) [.ref (n_8)] gL_law_X4_init rfl (by decide +kernel) (by decide +kernel) (by decide +kernel) rfl hd_X4_init ⟨⟨Nat.le_of_ble_eq_true rfl, Nat.le_of_ble_eq_true rfl⟩, Nat.le_of_ble_eq_true rfl, Nat.le_of_ble_eq_true rfl⟩ rfl (Nat.le_of_ble_eq_true rfl) rfl dL_law_12 (pBs (n := 14) [gsW G g_4.1 none none, scW G (g_4.1 1) sc00, scW G (g_4.1 2) sc00, vwW G (g_4.1 3) z0 z0 z0 z0 z0 z0 z0 z0 z0 0, vwW G (g_4.1 4) z0 z0 z0 z0 z0 z0 z0 z0 z0 0, pdW G (g_4.1 5) z0 0, hiW G (g_4.1 6) g_4.2 0 0, scW G (g_4.2 0) sc00, scW G (g_4.2 1) sc00, scW G (g_4.2 2) sc00, scW G (g_4.2 3) sc00, scW G (g_4.2 4) sc00, scW G (g_4.2 5) sc00, [(n_8, kO 4 [.null, .null, .null, .null, .null, .null, .null])]] [13] [0, 1, 2, 3, 4, 5, 6, 7, 8, 9, 10, 11, 12] rfl (by decide)) (kc' := 132) (ks' := 4384) rfl rfl (rxV (ws' := fun (g_12 : AD × AD) => (bl [gsW G g_4.1 none none, scW G (g_4.1 1) sc00, scW G (g_4.1 2) sc00, vwW G (g_4.1 3) z0 z0 z0 z0 z0 z0 z0 z0 z0 0, vwW G (g_4.1 4) z0 z0 z0 z0 z0 z0 z0 z0 z0 0, pdW G (g_4.1 5) z0 0, hiW G (g_4.1 6) g_4.2 0 0, scW G (g_4.2 0) sc00, scW G (g_4.2 1) sc00, scW G (g_4.2 2) sc00, scW G (g_4.2 3) sc00, scW G (g_4.2 4) sc00, scW G (g_4.2 5) sc00, gsW G g_12.1 none none, scW G (g_12.1 1) sc00, scW G (g_12.1 2) sc00, vwW G (g_12.1 3) z0 z0 z0 z0 z0 z0 z0 z0 z0 0, vwW G (g_12.1 4) z0 z0 z0 z0 z0 z0 z0 z0 z0 0, pdW G (g_12.1 5) z0 0, hiW G (g_12.1 6) g_12.2 0 0, scW G (g_12.2 0) sc00, scW G (g_12.2 1) sc00, scW G (g_12.2 2) sc00, scW G (g_12.2 3) sc00, scW G (g_12.2 4) sc00, scW G (g_12.2 5) sc00])) (fun g_12 => (pBs (n := 26) [gsW G g_4.1 none none, scW G (g_4.1 1) sc00, scW G (g_4.1 2) sc00, vwW G (g_4.1 3) z0 z0 z0 z0 z0 z0 z0 z0 z0 0, vwW G (g_4.1 4) z0 z0 z0 z0 z0 z0 z0 z0 z0 0, pdW G (g_4.1 5) z0 0, hiW G (g_4.1 6) g_4.2 0 0, scW G (g_4.2 0) sc00, scW G (g_4.2 1) sc00, scW G (g_4.2 2) sc00, scW G (g_4.2 3) sc00, scW G (g_4.2 4) sc00, scW G (g_4.2 5) sc00, gsW G g_12.1 none none, scW G (g_12.1 1) sc00, scW G (g_12.1 2) sc00, vwW G (g_12.1 3) z0 z0 z0 z0 z0 z0 z0 z0 z0 0, vwW G (g_12.1 4) z0 z0 z0 z0 z0 z0 z0 z0 z0 0, pdW G (g_12.1 5) z0 0, hiW G (g_12.1 6) g_12.2 0 0, scW G (g_12.2 0) sc00, scW G (g_12.2 1) sc00, scW G (g_12.2 2) sc00, scW G (g_12.2 3) sc00, scW G (g_12.2 4) sc00, scW G (g_12.2 5) sc00] [13, 14, 15, 16, 17, 18, 19, 20, 21, 22, 23, 24, 25] [0, 1, 2, 3, 4, 5, 6, 7, 8, 9, 10, 11, 12] rfl (by decide)).symm) (fun g_12 hf_12 => ?_))
  obtain rfl := hf_12
  refine V.astore_n (lv' := [some (.ref (b)), some (.ref (g_4.1 0 0)), some (.ref (g_12.1 0 0)), none, none]) E dL_law_15 rfl (Nat.le_of_ble_eq_true rfl) rfl rfl ?_
  refine V.iconst (v := nI (1)) E dL_law_16 (by decide) ?_
  refine V.istore_n (lv' := [some (.ref (b)), some (.ref (g_4.1 0 0)), some (.ref (g_12.1 0 0)), some (.int (nI (1))), none]) E dL_law_17 rfl (Nat.le_of_ble_eq_true rfl) rfl rfl ?_
  refine V.iconst (v := nI (0)) E dL_law_18 (by decide) ?_
  refine V.istore (lv' := [some (.ref (b)), some (.ref (g_4.1 0 0)), some (.ref (g_12.1 0 0)), some (.int (nI (1))), some (.int (nI (0)))]) E dL_law_19 (Nat.le_of_ble_eq_true rfl) rfl rfl ?_
  refine V.eqw (ws' := (bl [obW G g_4.1 g_4.2 q00 j00, obW G g_12.1 g_12.2 q00 j00, slB G q00, slB G q00])) (lw_eq (obL G g_4.1 g_4.2 q00 j00) (obL G g_12.1 g_12.2 q00 j00)) ?_
  exact lw_loop E S KE 40 0 132 4384 (by decide) (by decide) (by decide) q00 j00 q00 j00 rel00
