/-! the law: rows of its script, the words of its loop -/
section
variable {G : VC} {A : Nat → Prop} {X : VX} {R : Room} {cc : ByteArray} {own : String} {Ts : List Cond} {nL : Nat} {ws : va_W} {kc ks pc : Nat} {lv : List (Option Value)} {st : List Value}
/-- the script: L numbers at the cell b, which nobody writes -/
def SX (A : Nat → Prop) (X : VX) (b L : Nat) (sc : Nat → Int32) : Prop := va_X b L sc (xs X) (xs X).heap ∧ b < (xs X).heap.size ∧ ¬ A b ∧ L ≤ 2560
theorem V.sld (E : Ev G A X cc own Ts nL) {b L : Nat} {sc : Nat → Int32} (S : SX A X b L sc) {i : Nat} (hi : i < L) {v : Int32} (hv : sc i = v) (hdg : decode cc pc = .ok (.iaload, 1)) (k : V G A X R ws kc ks (pc + 1) lv (.int v :: st)) : V G A X R ws kc ks pc lv (.int (nI i) :: .ref b :: st) :=
  fun H locs ls hP hD hS hl => va_sld E.1 E.2.1 S.1 S.2.1 S.2.2.1 hS (vp_in_nI hi (Nat.lt_of_le_of_lt S.2.2.2 (by decide))) hdg (by rw [nI_clamp (Nat.lt_trans hi (Nat.lt_of_le_of_lt S.2.2.2 (by decide))), hv]; exact k H locs ls hP hD hS hl)
theorem V.slen (E : Ev G A X cc own Ts nL) {b L : Nat} {sc : Nat → Int32} (S : SX A X b L sc) (hdg : decode cc pc = .ok (.arraylength, 1)) (k : V G A X R ws kc ks (pc + 1) lv (.int (nI L) :: st)) : V G A X R ws kc ks pc lv (.ref b :: st) :=
  fun H locs ls hP hD hS hl => va_slen E.1 E.2.1 S.1 S.2.1 S.2.2.1 hS hdg (k H locs ls hP hD hS hl)
end
theorem rmL {kc c R : Nat} (h : kc + 5 ≤ R) (hc : Nat.ble c 5 = true) : kc + c ≤ R := Nat.le_trans (Nat.add_le_add_left (Nat.le_of_ble_eq_true hc) _) h
theorem rmS {ks c R : Nat} (h : ks + 155 ≤ R) (hc : Nat.ble c 155 = true) : ks + c ≤ R := Nat.le_trans (Nat.add_le_add_left (Nat.le_of_ble_eq_true hc) _) h
abbrev SLT : Type := Option ((Nat → Nat) × SC)
def sltA : SLT → Option Nat
  | none => none
  | some p => some (p.1 0)
def sltW (G : VC) : SLT → va_W
  | none => []
  | some p => scW G p.1 p.2
/-- what the reference's rows hold of a slot -/
def SLI (k : Nat) (S : SLT) (sl sv : Nat → Nat) : Prop := match S with
  | none => sv k = 0
  | some p => sv k = 1 ∧ SInv p.2 ∧ ∀ j, j < 151 → sl (151 * k + j) = fla p.2 j
theorem SLI.none_ {k : Nat} {sl sv : Nat → Nat} (h : SLI k none sl sv) : sv k = 0 := h
theorem SLI.some_ {k : Nat} {g : Nat → Nat} {y : SC} {sl sv : Nat → Nat} (h : SLI k (some (g, y)) sl sv) : sv k = 1 ∧ SInv y ∧ ∀ j, j < 151 → sl (151 * k + j) = fla y j := h
theorem SLI.same {k : Nat} {g : Nat → Nat} {x : SC} {sl sv : Nat → Nat} (hx : SInv x) : SLI k (some (g, x)) (ins (151 * k) 151 (fla x) sl) (upN sv k 1) :=
  ⟨upN_s, hx, fun j hj => ins_in hj⟩
theorem SLI.other {k k2 : Nat} {S : SLT} {x : SC} {sl sv : Nat → Nat} (h : SLI k2 S sl sv) (hk : k2 < k ∨ k < k2) : SLI k2 S (ins (151 * k) 151 (fla x) sl) (upN sv k 1) := by
  cases S with
  | none => exact (upN_n (by omega)).trans h.none_
  | some p => exact ⟨(upN_n (by omega)).trans h.1, h.2.1, fun j hj => (ins_out (by omega)).trans (h.2.2 j hj)⟩
/-- what holds at the head of the law's loop -/
def LI (x : SC) (hl tl ro : Nat) (rg hh : Nat → SC) (hi sl sv tx : Nat → Nat) (S0 S1 : SLT) : Prop := SInv x ∧ hl ≤ 6 ∧ ro < 6 ∧ (∀ j, j < 6 → SInv (rg j)) ∧ RH ro hl rg hh ∧ HI hl hh hi ∧ TI tl tx ∧ SLI 0 S0 sl sv ∧ SLI 1 S1 sl sv
theorem LI.rem {x : SC} {hl tl ro : Nat} {rg hh : Nat → SC} {hi sl sv tx : Nat → Nat} {S0 S1 : SLT} (q : LI x hl tl ro rg hh hi sl sv tx S0 S1) {x2 : SC} {gh : Nat → Nat} (hx : SInv x2) (hg : HI (hlN hl) (hhN x hl hh) gh) : LI x2 (hlN hl) tl (onN ro hl) (rgu rg ((ro + hl) % 6) x) (hhN x hl hh) gh sl sv tx S0 S1 := by
  obtain ⟨q1, q2, q3, q4, q5, q6, q7, q8, q9⟩ := q
  exact ⟨hx, hlN_le q2, onN_lt q3, RH.inv q1 q4, RH.rem q3 q2 q5, hg, q7, q8, q9⟩
theorem LI.txt {x : SC} {hl tl ro : Nat} {rg hh : Nat → SC} {hi sl sv tx : Nat → Nat} {S0 S1 : SLT} (q : LI x hl tl ro rg hh hi sl sv tx S0 S1) {tl2 : Nat} {tx2 : Nat → Nat} (h : TI tl2 tx2) : LI x hl tl2 ro rg hh hi sl sv tx2 S0 S1 := by
  obtain ⟨q1, q2, q3, q4, q5, q6, q7, q8, q9⟩ := q
  exact ⟨q1, q2, q3, q4, q5, q6, h, q8, q9⟩
theorem LI.und {x : SC} {hl tl ro : Nat} {rg hh : Nat → SC} {hi sl sv tx : Nat → Nat} {S0 S1 : SLT} (q : LI x (hl + 1) tl ro rg hh hi sl sv tx S0 S1) : LI (hh hl) hl tl ro rg hh hi sl sv tx S0 S1 := by
  obtain ⟨q1, q2, q3, q4, q5, q6, q7, q8, q9⟩ := q
  refine ⟨?_, by omega, q3, q4, q5.back.1, fun k hk => q6 k (by omega), q7, q8, q9⟩
  rw [q5.back.2]
  exact q4 _ (by omega)
theorem LI.slt {x : SC} {hl tl ro : Nat} {rg hh : Nat → SC} {hi sl sv tx : Nat → Nat} {S0 S1 : SLT} (q : LI x hl tl ro rg hh hi sl sv tx S0 S1) {sl2 sv2 : Nat → Nat} {S2 S3 : SLT} (h0 : SLI 0 S2 sl2 sv2) (h1 : SLI 1 S3 sl2 sv2) : LI x hl tl ro rg hh hi sl2 sv2 tx S2 S3 := by
  obtain ⟨q1, q2, q3, q4, q5, q6, q7, q8, q9⟩ := q
  exact ⟨q1, q2, q3, q4, q5, q6, q7, h0, h1⟩
theorem okI_s {n : Nat} {x : Int32} (h : ¬ okI n x = false) (hn : n ≤ 2 ^ 31) : ∃ j : Nat, j < n ∧ x = nI j := okI_t (by cases e : okI n x with | true => rfl | false => exact absurd e h) hn
theorem okSet_s {k v : Int32} (h : ¬ okSet k v = false) : ∃ k2 v2 : Nat, k2 < 6 ∧ v2 ≤ hv k2 ∧ k = nI k2 ∧ v = nI v2 := by
  have h1 : okSet k v = true := by cases e : okSet k v with | true => rfl | false => exact absurd e h
  unfold okSet at h1
  rw [Bool.and_eq_true] at h1
  have h2 : ∀ j, j < 6 → hv j ≤ 45 := by decide
  obtain ⟨k2, hk, rfl⟩ := okI_t h1.1 (by decide)
  have h3 := h2 k2 hk
  have h4 := h1.2
  rw [nN_nI (by omega)] at h4
  obtain ⟨v2, hv2, rfl⟩ := okI_t h4 (by omega)
  exact ⟨k2, v2, hk, by omega, rfl, rfl⟩
theorem inS_s {k w : Int32} (h : ¬ (inS k && okI 2 w) = false) : ∃ k2 w2 : Nat, 2 ≤ k2 ∧ k2 ≤ 4 ∧ w2 < 2 ∧ k = nI k2 ∧ w = nI w2 := by
  have h1 : (inS k && okI 2 w) = true := by cases e : (inS k && okI 2 w) with | true => rfl | false => exact absurd e h
  rw [Bool.and_eq_true] at h1
  obtain ⟨w2, hw2, rfl⟩ := okI_t h1.2 (by decide)
  have h3 := h1.1
  unfold inS at h3
  rw [decide_eq_true_eq] at h3
  refine ⟨k.toInt.toNat, w2, by omega, by omega, hw2, ?_, rfl⟩
  rw [i_eq, nI_toInt (by omega)]
  omega
theorem okI2_s {n m : Nat} {x y : Int32} (h : ¬ (okI n x && okI m y) = false) (hn : n ≤ 2 ^ 31) (hm : m ≤ 2 ^ 31) : ∃ j k : Nat, j < n ∧ k < m ∧ x = nI j ∧ y = nI k := by
  have h1 : (okI n x && okI m y) = true := by cases e : (okI n x && okI m y) with | true => rfl | false => exact absurd e h
  rw [Bool.and_eq_true] at h1
  obtain ⟨j, hj, e1⟩ := okI_t h1.1 hn
  obtain ⟨k, hk, e2⟩ := okI_t h1.2 hm
  exact ⟨j, k, hj, hk, e1, e2⟩
theorem ls_5 {i : Nat} : nI i + Int32.ofInt 5 = nI (i + 5) := nI_add i 5
theorem ls_gt {i L : Nat} (hi : i < 2 ^ 30) (hL : L < 2 ^ 30) : (nI L - nI 5 < nI i) ↔ L < i + 5 := by
  rw [i_lt, pk_sub_toInt hL (by decide), nI_toInt (by omega)]
  omega
theorem sw20 (v : Int32) : v = nI 0 ∨ v = nI 1 ∨ v = nI 2 ∨ v = nI 3 ∨ v = nI 4 ∨ v = nI 5 ∨ v = nI 6 ∨ v = nI 7 ∨ v = nI 8 ∨ v = nI 9 ∨ v = nI 10 ∨ v = nI 11 ∨ v = nI 12 ∨ v = nI 13 ∨ v = nI 14 ∨ v = nI 15 ∨ v = nI 16 ∨ v = nI 17 ∨ v = nI 18 ∨ v = nI 19 ∨ (v.toInt < 0 ∨ 19 < v.toInt) := by
  simp only [i_eq, nI_toInt (show 0 < 2 ^ 31 by decide), nI_toInt (show 1 < 2 ^ 31 by decide), nI_toInt (show 2 < 2 ^ 31 by decide), nI_toInt (show 3 < 2 ^ 31 by decide), nI_toInt (show 4 < 2 ^ 31 by decide), nI_toInt (show 5 < 2 ^ 31 by decide), nI_toInt (show 6 < 2 ^ 31 by decide), nI_toInt (show 7 < 2 ^ 31 by decide), nI_toInt (show 8 < 2 ^ 31 by decide), nI_toInt (show 9 < 2 ^ 31 by decide), nI_toInt (show 10 < 2 ^ 31 by decide), nI_toInt (show 11 < 2 ^ 31 by decide), nI_toInt (show 12 < 2 ^ 31 by decide), nI_toInt (show 13 < 2 ^ 31 by decide), nI_toInt (show 14 < 2 ^ 31 by decide), nI_toInt (show 15 < 2 ^ 31 by decide), nI_toInt (show 16 < 2 ^ 31 by decide), nI_toInt (show 17 < 2 ^ 31 by decide), nI_toInt (show 18 < 2 ^ 31 by decide), nI_toInt (show 19 < 2 ^ 31 by decide)]
  omega
/-- the way on behind a call and its comparison -/
abbrev LK (G : VC) (A : Nat → Prop) (X : VX) (kc ks b i : Nat) (a : Nat → Nat) (ad ha : AD) : Prop := ∀ (hi : Nat → Nat) (sl : Nat → Nat) (sv : Nat → Nat) (mr : Nat → Nat) (mo : Nat → Nat) (mk : Nat → Nat) (mt : Nat → Nat) (mm : Nat → Nat) (me : Nat → Nat) (mw : Nat → Nat) (tx : Nat → Nat) (cl : Nat → Int32) (hl : Nat) (tl : Nat) (sp : Nat) (rd : Nat) (x : SC) (y : SC) (ur : Nat → Nat) (uo : Nat → Nat) (uk : Nat → Nat) (us : Nat → Nat) (ut : Nat → Nat) (uc : Nat → Nat) (um : Nat → Nat) (ue : Nat → Nat) (uq : Nat → Nat) (un_ : Nat) (zr : Nat → Nat) (zo : Nat → Nat) (zk : Nat → Nat) (zs : Nat → Nat) (zt : Nat → Nat) (zc : Nat → Nat) (zm : Nat → Nat) (ze : Nat → Nat) (zq : Nat → Nat) (zn_ : Nat) (ro : Nat) (rg : Nat → SC) (hh : Nat → SC) (S0 : SLT) (S1 : SLT), LI x hl tl ro rg hh hi sl sv tx S0 S1 → V G A X room_1 (bl [gsW G ad (sltA S0) (sltA S1), mdW G a (fla x) hi sl sv mr mo mk mt mm me mw tx cl hl tl sp rd, scW G (ad 1) x, scW G (ad 2) y, vwW G (ad 3) ur uo uk us ut uc um ue uq un_, vwW G (ad 4) zr zo zk zs zt zc zm ze zq zn_, pdW G (ad 5) tx tl, hiW G (ad 6) ha ro hl, scW G (ha 0) (rg 0), scW G (ha 1) (rg 1), scW G (ha 2) (rg 2), scW G (ha 3) (rg 3), scW G (ha 4) (rg 4), scW G (ha 5) (rg 5), sltW G S0, sltW G S1]) kc ks 762 [some (.ref b), some (.ref (ad 0 0)), some (.ref (a 0)), some (.int (nI (i)))] []
